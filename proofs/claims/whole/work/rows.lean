section
/-! ===== BEGIN words of one list among another's, by their places ===== -/
theorem goodIn_r {big : List Cond} (ws : List Cond) (ps : List Nat) (hp : ws = ps.filterMap (fun i => big[i]?)) (h : ws.all goodWord = true) : GoodIn big ws := by
  intro w hw
  have h1 := List.all_eq_true.mp h w hw
  rw [hp] at hw
  obtain ⟨i, -, hi⟩ := List.mem_filterMap.mp hw
  have hm : w ∈ big := by first | exact List.mem_of_getElem? hi | exact List.getElem?_mem hi
  exact ⟨hm, good_of_word h1⟩
theorem goodIn_app {big a b : List Cond} (ha : GoodIn big a) (hb : GoodIn big b) : GoodIn big (a ++ b) := fun w h => (List.mem_append.mp h).elim (ha w) (hb w)
theorem goodIn_ca {big a b : List Cond} {c : Cond} (ha : GoodIn big (c :: a)) (hb : GoodIn big b) : GoodIn big (c :: (a ++ b)) := fun w h => (List.mem_cons.mp h).elim (fun e => ha w (List.mem_cons.mpr (Or.inl e))) (fun h => (List.mem_append.mp h).elim (fun h => ha w (List.mem_cons.mpr (Or.inr h))) (hb w))
theorem goodIn_sub {big ws : List Cond} (hm : ∀ w ∈ ws, w ∈ big) (h : ws.all goodWord = true) : GoodIn big ws := fun w hw => ⟨hm w hw, good_of_word (List.all_eq_true.mp h w hw)⟩
/-! ===== END ===== -/
/-! ===== BEGIN exceptions that leave a method, and their catching by the caller (launches without stack traces) ===== -/
section VXA
/-! The laws vx_back, vx_callV, vx_callS, vx_callSW, vx_throw0, vx_throwS follow proofs of the library, with one case more: JvmDerived/Free/Laws.lean (Back.of_free), Shelf42/LK1.lean (callV, callS), Shelf/KitTraced.lean (throwNew0V, throwNewS). -/
/-- where a method has thrown q: the class by its name, the cell, what was written, the world -/
def vx_T (XC : String → State → State → Prop) (st : State) (q : Addr) (t : State) (mc ms : Nat) (free : Addr → Prop) : Prop :=
  ∃ (E : String) (ce : Cell) (L : List Loc), XC E st t ∧ t.heap[q]? = some ce ∧ ce.vm = .none ∧ st.vm.findClass E = some ce.cls ∧ st.WarmedH t.vm ∧ st.sameButNew ({ t with vm := st.vm } : State) L mc ms ∧ ∀ z ∈ L, free z.base
def vx_Q (Qc : Array Value → State → Outcome → State → Prop) (XC : String → State → State → Prop) (mc ms : Nat) (free : Addr → Prop) : Array Value → State → Outcome → State → Prop := fun a st o t =>
  (Qc a st o t ∧ ∃ L, FrameEnd st o t L mc ms ∧ ∀ q ∈ L, free q.base) ∨ ∃ q, o = .threw q ∧ vx_T XC st q t mc ms free
/-- a callee that returns or throws -/
def vx_Met (l : Launch) (y : MethodName) (ws : List Cond) (rm : Room) (Pc : Array Value → State → Prop) (Qc : Array Value → State → Outcome → State → Prop) (XC : String → State → State → Prop) (mc ms : Nat) (free : Addr → Prop) : Prop :=
  MetFree l y (headSpec ws rm) Pc (fun _ _ _ _ _ => True) (vx_Q Qc XC mc ms free)
def vx_Post (XC : String → State → State → Prop) (mc ms : Nat) (free : Addr → Prop) : Pt → Array Value → Addr → Pt → Prop := fun A a q B =>
  ∃ (g : JFrame) (mk : MethodId) (t : State) (L : List Loc) (E : String) (ce : Cell), B.U.heap = t.heap ∧ B.U.vm = t.vm ∧ XC E (A.U.calling g mk a) t ∧ t.heap[q]? = some ce ∧ ce.vm = .none ∧ A.U.vm.findClass E = some ce.cls ∧ B.locs = A.locs ++ L ∧ (∀ z ∈ L, free z.base) ∧ B.cells = A.cells + mc ∧ B.slots = A.slots + ms
def vx_Back (l : Launch) (R : Room) (p : Program) (e : Env) (below : List Frame) (s : State) (sargs : Array Value) (y : MethodName) (len W9 : Nat)
    (Pre : Pt → Array Value → Prop) (Post : Pt → Array Value → Option Value → Pt → Prop) (PostX : Pt → Array Value → Addr → Pt → Prop) : Prop :=
  ∀ (m : MethodId) (meth : Method) (c : Code) (A : Pt) (g : JFrame) (ig : Instr) (mk : MethodId) (a : Array Value),
    Stand p l e R s m sargs below meth c A.U A.locs A.cells A.slots → g.method = m → g.locals.size = c.maxLocals → decode c.code g.pc = .ok (ig, len) →
    2 * g.monitorRoom + (g.stack.map fun v => v.category).sum ≤ W9 → A.U.methodNamed? y = some mk → Pre A a →
    (∃ (v : Option Value) (B : Pt), Stand p l e R s m sargs below meth c B.U B.locs B.cells B.slots ∧ Post A a v B ∧
      Steps p.tables e below (doInvoke e (A.U.setTop g) [] mk a).1 (B.U.setTop { g with pc := g.pc + len, stack := v.toList ++ g.stack })) ∨
    (∃ (q : Addr) (B : Pt), Stand p l e R s m sargs below meth c B.U B.locs B.cells B.slots ∧ PostX A a q B ∧
      Steps p.tables e below (doInvoke e (A.U.setTop g) [] mk a).1 ((B.U.setTop g).pushFrame (.throwing q)))
section Payer
variable {l : Launch} {R : Room} {p : Program} {e : Env} {below : List Frame} {s : State} {sargs : Array Value} {y : MethodName} {len W9 : Nat}
theorem vx_back {ws : List Cond} {rm : Room} {Pc : Array Value → State → Prop} {Qc : Array Value → State → Outcome → State → Prop} {XC : String → State → State → Prop} {mc ms : Nat} {free : Addr → Prop} {bytes : ByteArray} {maxL : Nat} {ret : Option FieldType}
    (hM : vx_Met l y ws rm Pc Qc XC mc ms free) (hblind : FrameBlind Pc) (hrc : rm.cells = mc) (hrs : rm.slots = ms)
    (hframes : rm.frames + 1 ≤ R.frames) (hlocals : W9 + (maxL + 11) + rm.locals ≤ R.locals)
    (hws : ∀ w ∈ ws, ∀ a' U, s.WarmedH U.vm → w.before a' U = true) (hcode : Cond.code y bytes maxL ret ∈ ws) (hinit : ∀ a' U, s.WarmedH U.vm → (Cond.initialized y.cls).before a' U = true) :
    vx_Back l R p e below s sargs y len W9 (PreOf R mc ms Pc) (PostOf Qc mc ms free) (vx_Post XC mc ms free) := by
  intro m meth c A g ig mk a X hg hsize hdg hW hn hp
  have h1 : (headSpec ws rm).pre.before a A.U = true := atoms_intro fun w hw => hws w hw _ _ X.warmed
  have h2 : (Cond.code y bytes maxL ret).before a A.U = true := hws _ hcode _ _ X.warmed
  have h3 : (Cond.initialized y.cls).before a A.U = true := hinit _ _ X.warmed
  have h4 : A.cells + (headSpec ws rm).room.cells ≤ R.cells := by rw [show (headSpec ws rm).room.cells = mc from hrc]; exact hp.1
  have h5 : A.slots + (headSpec ws rm).room.slots ≤ R.slots := by rw [show (headSpec ws rm).room.slots = ms from hrs]; exact hp.2.1
  have hPc : Pc a (A.U.calling g mk a) := hblind _ _ _ _ hp.2.2
  obtain ⟨U, Ls, c0, s0⟩ := A
  dsimp only [Pt.U, Pt.locs, Pt.cells, Pt.slots] at h1 h2 h3 h4 h5 X hn hPc ⊢
  obtain ⟨methY, cY, hmY, hcY, -, hlY, -, -, -, -⟩ := Cond.code_spec hn h2
  obtain ⟨kY, hkY, -⟩ := className_of_methodNamed hn
  have hinitY : kY.init = .initialized := Cond.initialized_spec (findClass_of_methodNamed hn) hkY h3
  have h : At U g.method c below := by rw [hg]; exact X.here
  have hlocals9 : W9 + (maxL + 11) + (headSpec ws rm).room.locals ≤ R.locals := hlocals
  have happ : (headSpec ws rm).appliesLoose y e.platform (U.calling g mk a) = true :=
    Spec.appliesLoose_calling (g := g) h hdg hn hkY hinitY
      (X.room_calling (g := g) (R' := (headSpec ws rm).room) hsize hmY hcY hframes (by rw [hlY]; omega) h4 h5) h1
  obtain ⟨mid, hmid⟩ := h.above
  have hfr : (U.setTop g).frames = (.java g :: mid) ++ below := by rw [State.frames_setTop' g h.top, hmid]; rfl
  obtain ⟨o, s₂, hsteps, -, hend, hq⟩ := Steps.callFree hM p X.admits X.cas X.clock (acts := []) hfr happ hPc trivial
  have hq' : vx_Q Qc XC mc ms free a (U.calling g mk a) o s₂ := hq
  rw [State.frames_setTop' g h.top] at hend
  obtain ⟨g₀, hg0⟩ := Option.isSome_iff_exists.mp h.top
  obtain ⟨r, hr⟩ := State.topJava?_eq_some.mp hg0
  have hr' : (({ U with heap := s₂.heap, slotsUsed := s₂.slotsUsed } : State).setVm s₂.vm).frames = .java g₀ :: r := hr
  rcases hq' with ⟨hqc, L, hfe, hL⟩ | ⟨q, rfl, E, ce, L, hx, hce, hcv, hcl, hW₂, hsm, hL⟩
  · obtain ⟨⟨v, rfl⟩, hW₂, e2, q2, q3, q4, q5, q6⟩ := id hfe
    have e3 : s₂ = ({ (U.calling g mk a).setFrames s₂.frames with heap := s₂.heap, slotsUsed := s₂.slotsUsed } : State).setVm s₂.vm := by
      have : s₂ = ({ s₂ with vm := (U.calling g mk a).vm } : State).setVm s₂.vm := rfl
      rw [e2] at this
      exact this
    obtain ⟨c₂, i₂, len₂, hc₂, hd₂, hf₂⟩ := hend
    have hW' : U.WarmedH s₂.vm := hW₂
    have hcc : c₂ = c := by
      have h1 : s₂.code? g.method = U.code? g.method := by
        rw [State.code?_eq, State.code?_eq, hW'.alike.method?]
      exact Option.some.inj (hc₂.symm.trans (h1.trans h.code))
    subst hcc
    have hlen : len₂ = len := by rw [hdg] at hd₂; cases hd₂; rfl
    subst hlen
    have hs₂ : s₂ = (({ U with heap := s₂.heap, slotsUsed := s₂.slotsUsed } : State).setVm s₂.vm).setTop { g with pc := g.pc + len₂, stack := v.toList ++ g.stack } := by
      refine e3.trans ?_
      rw [hf₂, State.calling_eq h.top, State.setFrames_setFrames, State.setTop_of_frames _ hr', hr]
      rfl
    have hsame : U.sameButNew ({ U with heap := s₂.heap, slotsUsed := s₂.slotsUsed } : State) L mc ms := by
      refine ⟨?_, q2, q3, q4, q5, q6⟩
      obtain ⟨t, ht, -⟩ := State.frames_cons hr
      show ({ U with heap := s₂.heap, slotsUsed := s₂.slotsUsed } : State) = { U.setFrames U.frames with heap := s₂.heap, slotsUsed := s₂.slotsUsed }
      rw [State.setFrames_self ht]
    subst hg
    refine Or.inl ⟨v, ⟨(({ U with heap := s₂.heap, slotsUsed := s₂.slotsUsed } : State).setVm s₂.vm), Ls ++ L, c0 + mc, s0 + ms⟩,
      ⟨X.admits, X.cas, X.clock, X.frames, X.room, X.hears, X.method, X.code, (X.here.setHeapUsed s₂.heap s₂.slotsUsed).setVm hW'.alike, X.tail, State.WarmedH.trans X.warmed hW', X.limits, X.bytes, X.same.trans (hsame.setVm s.vm)⟩,
      ⟨g, mk, s₂, L, rfl, rfl, hqc, rfl, hL, rfl, rfl⟩, ?_⟩
    show Steps p.tables e below _ ((({ U with heap := s₂.heap, slotsUsed := s₂.slotsUsed } : State).setVm s₂.vm).setTop { g with pc := g.pc + len₂, stack := v.toList ++ g.stack })
    rw [← hs₂]
    exact hsteps
  · obtain ⟨e2, q2, q3, q4, q5, q6⟩ := id hsm
    have e3 : s₂ = ({ (U.calling g mk a).setFrames s₂.frames with heap := s₂.heap, slotsUsed := s₂.slotsUsed } : State).setVm s₂.vm := by
      have : s₂ = ({ s₂ with vm := (U.calling g mk a).vm } : State).setVm s₂.vm := rfl
      rw [e2] at this
      exact this
    have hf₂ : s₂.frames = .throwing q :: .java g :: U.frames.tail := hend
    have hW' : U.WarmedH s₂.vm := hW₂
    have hs₂ : s₂ = ((({ U with heap := s₂.heap, slotsUsed := s₂.slotsUsed } : State).setVm s₂.vm).setTop g).pushFrame (.throwing q) := by
      refine e3.trans ?_
      rw [hf₂, State.calling_eq h.top, State.setFrames_setFrames, State.pushFrame, State.frames_setTop _ hr', State.setTop_of_frames _ hr', State.setFrames_setFrames, hr]
      rfl
    have hsame : U.sameButNew ({ U with heap := s₂.heap, slotsUsed := s₂.slotsUsed } : State) L mc ms := by
      refine ⟨?_, q2, q3, q4, q5, q6⟩
      obtain ⟨t, ht, -⟩ := State.frames_cons hr
      show ({ U with heap := s₂.heap, slotsUsed := s₂.slotsUsed } : State) = { U.setFrames U.frames with heap := s₂.heap, slotsUsed := s₂.slotsUsed }
      rw [State.setFrames_self ht]
    subst hg
    refine Or.inr ⟨q, ⟨(({ U with heap := s₂.heap, slotsUsed := s₂.slotsUsed } : State).setVm s₂.vm), Ls ++ L, c0 + mc, s0 + ms⟩,
      ⟨X.admits, X.cas, X.clock, X.frames, X.room, X.hears, X.method, X.code, (X.here.setHeapUsed s₂.heap s₂.slotsUsed).setVm hW'.alike, X.tail, State.WarmedH.trans X.warmed hW', X.limits, X.bytes, X.same.trans (hsame.setVm s.vm)⟩,
      ⟨g, mk, s₂, L, E, ce, rfl, rfl, hx, hce, hcv, hcl, rfl, hL, rfl, rfl⟩, ?_⟩
    show Steps p.tables e below _ (((({ U with heap := s₂.heap, slotsUsed := s₂.slotsUsed } : State).setVm s₂.vm).setTop g).pushFrame (.throwing q))
    rw [← hs₂]
    exact hsteps
end Payer
section Calls
variable {p : Program} {l : Launch} {e : Env} {R : Room} {s : State} {m : MethodId} {args : Array Value} {below : List Frame} {meth : Method} {c : Code} {T : State} {locs : List Loc} {cells slots : Nat}
theorem vx_callV (X : Stand p l e R s m args below meth c T locs cells slots) (hexec : p.tables.exec = Jvm.exec) {own C : String} {index : Nat} {y : MethodName} {bytes : ByteArray} {maxL : Nat} {ret : Option FieldType}
    (hown : s.vm.findClass own = some m.cls) (hlink : (Cond.methodLink own index y).before args s = true) (hinst : (Cond.instanceMethod y).before args s = true) (hsel : (Cond.selects C y y).before args s = true)
    (hcode : (Cond.code y bytes maxL ret).before args s = true) (hy : y.cls ≠ "java/lang/invoke/MethodHandle" ∧ y.cls ≠ "java/lang/invoke/VarHandle")
    {W9 : Nat} {Pre : Pt → Array Value → Prop} {Post : Pt → Array Value → Option Value → Pt → Prop} {PostX : Pt → Array Value → Addr → Pt → Prop} (hK : vx_Back l R p e below s args y 3 W9 Pre Post PostX)
    {b : Addr} {cellB : Cell} (hcell : T.heap[b]? = some cellB) (hobj : cellB.vm.isStatics = false) (hcls : s.vm.findClass C = some cellB.cls)
    {g : JFrame} (hg : g.method = m) (hsize : g.locals.size = c.maxLocals) {argsL rest : List Value} (hlen : ∀ sig, parseMethodDescriptor y.desc = some sig → argsL.length = sig.parameters.length)
    (hstack : g.stack = argsL.reverse ++ .ref b :: rest) (hW : 2 * g.monitorRoom + (rest.map fun v => v.category).sum ≤ W9) (hdg : decode c.code g.pc = .ok (.invokevirtual index, 3))
    (hpre : ∀ vm₁, s.WarmedH vm₁ → Pre ⟨T.setVm vm₁, locs, cells, slots⟩ (Value.ref b :: argsL).toArray) :
    (∃ (v : Option Value) (vm₁ : Vm) (B : Pt), s.WarmedH vm₁ ∧ Stand p l e R s m args below meth c B.U B.locs B.cells B.slots ∧ Post ⟨T.setVm vm₁, locs, cells, slots⟩ (Value.ref b :: argsL).toArray v B ∧
      ∀ target, Steps p.tables e below (B.U.setTop { g with pc := g.pc + 3, stack := v.toList ++ rest }) target → Steps p.tables e below (T.setTop g) target) ∨
    (∃ (q : Addr) (vm₁ : Vm) (B : Pt), s.WarmedH vm₁ ∧ Stand p l e R s m args below meth c B.U B.locs B.cells B.slots ∧ PostX ⟨T.setVm vm₁, locs, cells, slots⟩ (Value.ref b :: argsL).toArray q B ∧
      Steps p.tables e below (T.setTop g) ((B.U.setTop { g with stack := rest }).pushFrame (.throwing q))) := by
  obtain ⟨mk, methM, hnamed, hmethM, hstM, habM⟩ := Cond.instanceMethod_spec hinst
  obtain ⟨methM', cM, hmethM', -, -, -, -, -, -, hsigM⟩ := Cond.code_spec hnamed hcode
  cases hmethM.symm.trans hmethM'
  obtain ⟨c2, r2, m2, q1, q2, q3, q4, kP, hkP, hkPi⟩ := Cond.selects_spec hsel
  cases hcls.symm.trans q1
  cases (State.methodFound?_of_named hnamed hy).symm.trans q2
  cases hnamed.symm.trans q3
  have hselP : selectMethod e.platform s.vm cellB.cls mk = .method mk := by rw [Launch.admits_selectMethod X.admits]; exact q4
  obtain ⟨vm₁, X₁, hstep₁⟩ := X.invokevirtual hexec hown hlink hnamed hmethM hstM hkP hkPi hy (a := b) (cell := cellB) hcell
    (fun z h => by rw [h] at hobj; cases hobj) hselP hmethM habM hkP hkPi (g := g) hg (argsL := argsL) (rest := rest) (hlen _ hsigM) hstack hdg
  rcases hK m meth c ⟨T.setVm vm₁, locs, cells, slots⟩ { g with stack := rest } (.invokevirtual index) mk (Value.ref b :: argsL).toArray X₁ hg hsize hdg hW (X₁.named hnamed) (hpre vm₁ X₁.warmed) with ⟨v, B, X', hpost, hsteps⟩ | ⟨q, B, X', hpost, hsteps⟩
  · exact Or.inl ⟨v, vm₁, B, X₁.warmed, X', hpost, fun target h => hstep₁ _ fun acts => by rw [doInvoke_state]; exact hsteps.trans h⟩
  · exact Or.inr ⟨q, vm₁, B, X₁.warmed, X', hpost, hstep₁ _ fun acts => by rw [doInvoke_state]; exact hsteps⟩
theorem vx_callS (X : Stand p l e R s m args below meth c T locs cells slots) (hexec : p.tables.exec = Jvm.exec) {own : String} {index : Nat} {y : MethodName} {bytes : ByteArray} {maxL : Nat} {ret : Option FieldType}
    (hown : s.vm.findClass own = some m.cls) (hlink : (Cond.methodLink own index y).before args s = true) (hstat : (Cond.static y).before args s = true) (hinit : (Cond.initialized y.cls).before args s = true)
    (hcode : (Cond.code y bytes maxL ret).before args s = true) (hy : y.cls ≠ "java/lang/invoke/MethodHandle" ∧ y.cls ≠ "java/lang/invoke/VarHandle")
    {W9 : Nat} {Pre : Pt → Array Value → Prop} {Post : Pt → Array Value → Option Value → Pt → Prop} {PostX : Pt → Array Value → Addr → Pt → Prop} (hK : vx_Back l R p e below s args y 3 W9 Pre Post PostX)
    {g : JFrame} (hg : g.method = m) (hsize : g.locals.size = c.maxLocals) {argsL rest : List Value} (hlen : ∀ sig, parseMethodDescriptor y.desc = some sig → argsL.length = sig.parameters.length)
    (hstack : g.stack = argsL.reverse ++ rest) (hW : 2 * g.monitorRoom + (rest.map fun v => v.category).sum ≤ W9) (hdg : decode c.code g.pc = .ok (.invokestatic index, 3))
    (hpre : ∀ vm₁, s.WarmedH vm₁ → Pre ⟨T.setVm vm₁, locs, cells, slots⟩ argsL.toArray) :
    (∃ (v : Option Value) (vm₁ : Vm) (B : Pt), s.WarmedH vm₁ ∧ Stand p l e R s m args below meth c B.U B.locs B.cells B.slots ∧ Post ⟨T.setVm vm₁, locs, cells, slots⟩ argsL.toArray v B ∧
      ∀ target, Steps p.tables e below (B.U.setTop { g with pc := g.pc + 3, stack := v.toList ++ rest }) target → Steps p.tables e below (T.setTop g) target) ∨
    (∃ (q : Addr) (vm₁ : Vm) (B : Pt), s.WarmedH vm₁ ∧ Stand p l e R s m args below meth c B.U B.locs B.cells B.slots ∧ PostX ⟨T.setVm vm₁, locs, cells, slots⟩ argsL.toArray q B ∧
      Steps p.tables e below (T.setTop g) ((B.U.setTop { g with stack := rest }).pushFrame (.throwing q))) := by
  obtain ⟨mk, hnamed⟩ := Cond.code_named hcode
  obtain ⟨methM, cM, hmethM, -, -, -, -, -, -, hsigM⟩ := Cond.code_spec hnamed hcode
  have hstatic : methM.isStatic = true := Cond.static_spec hnamed hmethM hstat
  obtain ⟨kP, hkP, -⟩ := className_of_methodNamed hnamed
  have hinitP : kP.init = .initialized := Cond.initialized_spec (findClass_of_methodNamed hnamed) hkP hinit
  obtain ⟨vm₁, X₁, hstep₁⟩ := X.invokestatic hexec hown hlink hnamed hmethM hstatic hkP hinitP hy (g := g) hg (argsL := argsL) (rest := rest) (hlen _ hsigM) hstack hdg
  rcases hK m meth c ⟨T.setVm vm₁, locs, cells, slots⟩ { g with stack := rest } (.invokestatic index) mk argsL.toArray X₁ hg hsize hdg hW (X₁.named hnamed) (hpre vm₁ X₁.warmed) with ⟨v, B, X', hpost, hsteps⟩ | ⟨q, B, X', hpost, hsteps⟩
  · exact Or.inl ⟨v, vm₁, B, X₁.warmed, X', hpost, fun target h => hstep₁ _ fun acts => by rw [doInvoke_state]; exact hsteps.trans h⟩
  · exact Or.inr ⟨q, vm₁, B, X₁.warmed, X', hpost, hstep₁ _ fun acts => by rw [doInvoke_state]; exact hsteps⟩
end Calls
theorem vx_cls {s : State} {T : State} {vm₁ : Vm} {E : String} {k : ClassId} (hW : s.WarmedH vm₁) (h : (T.setVm vm₁).vm.findClass E = some k) : s.vm.findClass E = some k := by
  have h1 : vm₁.findClass E = some k := h
  rw [hW.alike.findClass] at h1
  exact h1
/-- the method's frame g, with q thrown over it -/
def vx_W (p : Program) (l : Launch) (e : Env) (R : Room) (s : State) (m : MethodId) (args : Array Value) (below : List Frame) (meth : Method) (c : Code) (H : Heap) (locs : List Loc) (cells slots : Nat) (Q : State → Prop) (g : JFrame) (q : Addr) : Prop :=
  ∀ T : State, T.heap = H → Stand p l e R s m args below meth c T locs cells slots → ∃ t, Steps p.tables e below ((T.setTop g).pushFrame (.throwing q)) t ∧ Q t
def vx_Run (p : Program) (l : Launch) (e : Env) (R : Room) (s : State) (m : MethodId) (args : Array Value) (below : List Frame) (meth : Method) (c : Code) (H : Heap) (locs : List Loc) (cells slots mc ms : Nat) (g : JFrame) (rest : List Value) (Qa : State → Outcome → State → Prop) (XC : String → State → State → Prop) (free : Addr → Prop) : Prop :=
  ∀ T : State, T.heap = H → Stand p l e R s m args below meth c T locs cells slots →
    (∃ (v : Option Value) (st₀ t T' : State) (L : List Loc), st₀.heap = H ∧ Stand p l e R s m args below meth c T' (locs ++ L) (cells + mc) (slots + ms) ∧ (∀ q ∈ L, free q.base) ∧ T'.heap = t.heap ∧ T'.vm = t.vm ∧ Qa st₀ (.returned v) t ∧
      Goes p e below T g T' { g with pc := g.pc + 3, stack := v.toList ++ rest }) ∨
    (∃ (q : Addr) (st₀ t T' : State) (L : List Loc) (E : String) (ce : Cell), st₀.heap = H ∧ Stand p l e R s m args below meth c T' (locs ++ L) (cells + mc) (slots + ms) ∧ (∀ z ∈ L, free z.base) ∧ T'.heap = t.heap ∧ T'.vm = t.vm ∧ XC E st₀ t ∧ t.heap[q]? = some ce ∧ ce.vm = .none ∧ s.vm.findClass E = some ce.cls ∧
      Steps p.tables e below (T.setTop g) ((T'.setTop { g with stack := rest }).pushFrame (.throwing q)))
def vx_X {S : Type} (px : S → Prop) (B : String → S → State → Prop) (A : Nat → Prop) : String → State → State → Prop := fun E st t => ∃ u : S, px u ∧ B E u t ∧ va_F A st t
section Runs
variable {p : Program} {l : Launch} {e : Env} {R : Room} {s : State} {m : MethodId} {args : Array Value} {below : List Frame} {meth : Method} {c : Code} {H : Heap} {locs : List Loc} {cells slots : Nat}
variable {y : MethodName} {bytes cc : ByteArray} {maxL nL mc ms n index : Nat} {ret : Option FieldType} {ws : List Cond} {rm : Room} {Pc : Array Value → State → Prop} {Qc : Array Value → State → Outcome → State → Prop} {XC : String → State → State → Prop} {free : Addr → Prop} {Ts : List Cond} {own C : String} {b : Addr} {As rest : List Value} {g : JFrame}
theorem vx_callBack (cb : CallB R s args own index y bytes maxL ret ws rm mc ms n) (hM : vx_Met l y ws rm Pc Qc XC mc ms free) (hbl : FrameBlind Pc) : vx_Back l R p e below s args y 3 8 (PreOf R mc ms Pc) (PostOf Qc mc ms free) (vx_Post XC mc ms free) := by
  obtain ⟨hrc, hrs, hfr, hlo, hws, hcw, -, hini, -⟩ := cb
  exact vx_back (bytes := bytes) (maxL := maxL) (ret := ret) hM hbl hrc hrs hfr hlo hws hcw (fun a' U hW => word_at hW (Or.inl (by first | rfl | simp [Cond.onTables, Cond.keeps, Cond.steady])) hini)
theorem vx_runV (S : CallFix p m c cc nL s args Ts own) (hM : vx_Met l y ws rm Pc Qc XC mc ms free) (cw : CallW R s args own C index y bytes maxL ret ws rm mc ms n) (hp : PreV s H C b Pc As)
    (hg : g.method = m) (hn : As.length = n) (hsize : g.locals.size = nL) (hstack : g.stack = As.reverse ++ .ref b :: rest) (hW : 2 * g.monitorRoom + (rest.map fun v => v.category).sum ≤ 8) (hdg : decode cc g.pc = .ok (.invokevirtual index, 3)) (hf : cells + mc ≤ R.cells ∧ slots + ms ≤ R.slots) :
    vx_Run p l e R s m args below meth c H locs cells slots mc ms g rest (Qc (Value.ref b :: As).toArray) XC free := by
  have hK : vx_Back l R p e below s args y 3 8 (PreOf R mc ms Pc) (PostOf Qc mc ms free) (vx_Post XC mc ms free) := vx_callBack cw.1 hM hp.1
  obtain ⟨⟨-, -, -, -, -, -, hcode, -, hy, hlen, hl⟩, hin, hse⟩ := cw
  obtain ⟨hx, hb, hml, ho, -⟩ := S
  obtain ⟨-, ⟨cellB, hcB, hoB, hclB⟩, hPc⟩ := hp
  intro T hT X
  rcases vx_callV X hx (C := C) (bytes := bytes) (maxL := maxL) (ret := ret) ho hl hin hse hcode hy hK (by rw [hT]; exact hcB) hoB hclB hg (hsize.trans hml.symm) (argsL := As) (rest := rest) (fun sig h => hn.trans (hlen sig h)) hstack hW (by rw [hb]; exact hdg)
    (fun vm₁ hW₁ => ⟨hf.1, hf.2, hPc (T.setVm vm₁) hT hW₁⟩) with ⟨v, vm₁, ⟨U', l2, c2, s2⟩, hW₁, X', ⟨g', mk, t, L, e1, e2, hq, h1, hL, h2, h3⟩, st⟩ | ⟨q, vm₁, ⟨U', l2, c2, s2⟩, hW₁, X', ⟨g', mk, t, L, E, ce, e1, e2, hq, hce, hcv, hcl, h1, hL, h2, h3⟩, st⟩
  · dsimp only [Pt.U, Pt.locs, Pt.cells, Pt.slots] at X' e1 e2 h1 h2 h3 st
    subst h1; subst h2; subst h3
    exact Or.inl ⟨v, (T.setVm vm₁).calling g' mk (Value.ref b :: As).toArray, t, U', L, hT, X', hL, e1, e2, hq, st⟩
  · dsimp only [Pt.U, Pt.locs, Pt.cells, Pt.slots] at X' e1 e2 h1 h2 h3 st hcl
    subst h1; subst h2; subst h3
    exact Or.inr ⟨q, (T.setVm vm₁).calling g' mk (Value.ref b :: As).toArray, t, U', L, E, ce, hT, X', hL, e1, e2, hq, hce, hcv, vx_cls hW₁ hcl, st⟩
theorem vx_runS (S : CallFix p m c cc nL s args Ts own) (hM : vx_Met l y ws rm Pc Qc XC mc ms free) (cw : CallB R s args own index y bytes maxL ret ws rm mc ms n ∧ (Cond.static y).before args s = true) (hp : PreS s H Pc As)
    (hg : g.method = m) (hn : As.length = n) (hsize : g.locals.size = nL) (hstack : g.stack = As.reverse ++ rest) (hW : 2 * g.monitorRoom + (rest.map fun v => v.category).sum ≤ 8) (hdg : decode cc g.pc = .ok (.invokestatic index, 3)) (hf : cells + mc ≤ R.cells ∧ slots + ms ≤ R.slots) :
    vx_Run p l e R s m args below meth c H locs cells slots mc ms g rest (Qc As.toArray) XC free := by
  have hK : vx_Back l R p e below s args y 3 8 (PreOf R mc ms Pc) (PostOf Qc mc ms free) (vx_Post XC mc ms free) := vx_callBack cw.1 hM hp.1
  obtain ⟨⟨-, -, -, -, -, -, hcode, hini, hy, hlen, hl⟩, hstt⟩ := cw
  obtain ⟨hx, hb, hml, ho, -⟩ := S
  intro T hT X
  rcases vx_callS X hx (bytes := bytes) (maxL := maxL) (ret := ret) ho hl hstt hini hcode hy hK hg (hsize.trans hml.symm) (argsL := As) (rest := rest) (fun sig h => hn.trans (hlen sig h)) hstack hW (by rw [hb]; exact hdg)
    (fun vm₁ hW₁ => ⟨hf.1, hf.2, hp.2 (T.setVm vm₁) hT hW₁⟩) with ⟨v, vm₁, ⟨U', l2, c2, s2⟩, hW₁, X', ⟨g', mk, t, L, e1, e2, hq, h1, hL, h2, h3⟩, st⟩ | ⟨q, vm₁, ⟨U', l2, c2, s2⟩, hW₁, X', ⟨g', mk, t, L, E, ce, e1, e2, hq, hce, hcv, hcl, h1, hL, h2, h3⟩, st⟩
  · dsimp only [Pt.U, Pt.locs, Pt.cells, Pt.slots] at X' e1 e2 h1 h2 h3 st
    subst h1; subst h2; subst h3
    exact Or.inl ⟨v, (T.setVm vm₁).calling g' mk As.toArray, t, U', L, hT, X', hL, e1, e2, hq, st⟩
  · dsimp only [Pt.U, Pt.locs, Pt.cells, Pt.slots] at X' e1 e2 h1 h2 h3 st hcl
    subst h1; subst h2; subst h3
    exact Or.inr ⟨q, (T.setVm vm₁).calling g' mk As.toArray, t, U', L, E, ce, hT, X', hL, e1, e2, hq, hce, hcv, vx_cls hW₁ hcl, st⟩
end Runs
section Rows
variable {p : Program} {l : Launch} {e : Env} {R : Room} {s : State} {m : MethodId} {args : Array Value} {below : List Frame} {meth : Method} {c : Code} {H : Heap} {locs : List Loc} {cells slots : Nat} {Q : State → Prop}
variable {mc ms : Nat} {free : Addr → Prop} {A0 A1 : Nat → Prop} {H0 : Heap} {a : Array Value} {pc : Nat} {ls : Array Slot} {st0 rest : List Value}
theorem vx_keep {st₀ t T' : State} {L : List Loc} (h0 : st₀.heap = H) (e1 : T'.heap = t.heap) (hS : va_S A0 H0 H locs) (hA : ∀ q, q < H.size → A1 q → A0 q) (hf : ∀ q, free q → A0 q) (hL : ∀ q ∈ L, free q.base) (hF : va_F A1 st₀ t) :
    H.size ≤ T'.heap.size ∧ (∀ q : Nat, q < H.size → ¬ A1 q → T'.heap[q]? = H[q]?) ∧ va_S A0 H0 T'.heap (locs ++ L) := by
  obtain ⟨hz, hk⟩ := hF
  rw [h0] at hz hk
  exact ⟨by rw [e1]; exact hz, fun q h1 h2 => by rw [e1]; exact hk q h1 h2,
    ⟨Nat.le_trans hS.1 (by rw [e1]; exact hz), fun q h1 h2 => by rw [e1, hk q (Nat.lt_of_lt_of_le h1 hS.1) (fun z => h2 (hA q (Nat.lt_of_lt_of_le h1 hS.1) z))]; exact hS.2.1 q h1 h2, fun q hq => by
      rcases List.mem_append.mp hq with h | h
      · exact hS.2.2 q h
      · exact hf _ (hL q h)⟩⟩
theorem vx_calli {S SX : Type} {post : Int32 → S → Prop} {px : SX → Prop} {B : S → State → Prop} {BX : String → SX → State → Prop} {AX : Nat → Prop} (hr : vx_Run p l e R s m args below meth c H locs cells slots mc ms (F0 m pc ls st0) rest (va_Qi post B A1 a) (vx_X px BX AX) free) (hS : va_S A0 H0 H locs) (hA : ∀ q, q < H.size → A1 q → A0 q) (hf : ∀ q, free q → A0 q) (hAX : ∀ q, q < H.size → AX q → A0 q)
    (kx : ∀ (E : String) (ce : Cell) (q9 : Addr) (u : SX) (t : State) (H1 : Heap) (locs1 : List Loc), t.heap = H1 → s.vm.Alike t.vm → px u → BX E u t → H.size ≤ H1.size → (∀ q : Nat, q < H.size → ¬ AX q → H1[q]? = H[q]?) → va_S A0 H0 H1 locs1 → H1[q9]? = some ce → ce.vm = .none → s.vm.findClass E = some ce.cls → vx_W p l e R s m args below meth c H1 locs1 (cells + mc) (slots + ms) Q (F0 m pc ls rest) q9)
    (kk : ∀ (r : Int32) (u : S) (t : State) (H1 : Heap) (locs1 : List Loc), t.heap = H1 → s.vm.Alike t.vm → post r u → B u t → H.size ≤ H1.size → (∀ q : Nat, q < H.size → ¬ A1 q → H1[q]? = H[q]?) → va_S A0 H0 H1 locs1 → W p l e R s m args below meth c H1 locs1 (cells + mc) (slots + ms) Q (F0 m (pc + 3) ls (.int r :: rest))) : W p l e R s m args below meth c H locs cells slots Q (F0 m pc ls st0) := by
  intro T hT X
  rcases hr T hT X with ⟨v, st₀, t, T', L, h0, X', hL, e1, e2, ⟨⟨r, u, hv, hp, hb⟩, hF⟩, st⟩ | ⟨q, st₀, t, T', L, E, ce, h0, X', hL, e1, e2, ⟨u, hp, hb, hF⟩, hce, hcv, hcl, st⟩
  · cases hv
    obtain ⟨k1, k2, k3⟩ := vx_keep h0 e1 hS hA hf hL hF
    obtain ⟨t2, a1, b1⟩ := kk r u t T'.heap (locs ++ L) e1.symm (by rw [← e2]; exact X'.warmed.alike) hp hb k1 k2 k3 T' rfl X'
    exact ⟨t2, st t2 a1, b1⟩
  · obtain ⟨k1, k2, k3⟩ := vx_keep h0 e1 hS hAX hf hL hF
    obtain ⟨t2, a1, b1⟩ := kx E ce q u t T'.heap (locs ++ L) e1.symm (by rw [← e2]; exact X'.warmed.alike) hp hb k1 k2 k3 (by rw [e1]; exact hce) hcv hcl T' rfl X'
    exact ⟨t2, st.trans a1, b1⟩
theorem vx_calll {S SX : Type} {post : Int64 → S → Prop} {px : SX → Prop} {B : S → State → Prop} {BX : String → SX → State → Prop} {AX : Nat → Prop} (hr : vx_Run p l e R s m args below meth c H locs cells slots mc ms (F0 m pc ls st0) rest (va_Ql post B A1 a) (vx_X px BX AX) free) (hS : va_S A0 H0 H locs) (hA : ∀ q, q < H.size → A1 q → A0 q) (hf : ∀ q, free q → A0 q) (hAX : ∀ q, q < H.size → AX q → A0 q)
    (kx : ∀ (E : String) (ce : Cell) (q9 : Addr) (u : SX) (t : State) (H1 : Heap) (locs1 : List Loc), t.heap = H1 → s.vm.Alike t.vm → px u → BX E u t → H.size ≤ H1.size → (∀ q : Nat, q < H.size → ¬ AX q → H1[q]? = H[q]?) → va_S A0 H0 H1 locs1 → H1[q9]? = some ce → ce.vm = .none → s.vm.findClass E = some ce.cls → vx_W p l e R s m args below meth c H1 locs1 (cells + mc) (slots + ms) Q (F0 m pc ls rest) q9)
    (kk : ∀ (r : Int64) (u : S) (t : State) (H1 : Heap) (locs1 : List Loc), t.heap = H1 → s.vm.Alike t.vm → post r u → B u t → H.size ≤ H1.size → (∀ q : Nat, q < H.size → ¬ A1 q → H1[q]? = H[q]?) → va_S A0 H0 H1 locs1 → W p l e R s m args below meth c H1 locs1 (cells + mc) (slots + ms) Q (F0 m (pc + 3) ls (.long r :: rest))) : W p l e R s m args below meth c H locs cells slots Q (F0 m pc ls st0) := by
  intro T hT X
  rcases hr T hT X with ⟨v, st₀, t, T', L, h0, X', hL, e1, e2, ⟨⟨r, u, hv, hp, hb⟩, hF⟩, st⟩ | ⟨q, st₀, t, T', L, E, ce, h0, X', hL, e1, e2, ⟨u, hp, hb, hF⟩, hce, hcv, hcl, st⟩
  · cases hv
    obtain ⟨k1, k2, k3⟩ := vx_keep h0 e1 hS hA hf hL hF
    obtain ⟨t2, a1, b1⟩ := kk r u t T'.heap (locs ++ L) e1.symm (by rw [← e2]; exact X'.warmed.alike) hp hb k1 k2 k3 T' rfl X'
    exact ⟨t2, st t2 a1, b1⟩
  · obtain ⟨k1, k2, k3⟩ := vx_keep h0 e1 hS hAX hf hL hF
    obtain ⟨t2, a1, b1⟩ := kx E ce q u t T'.heap (locs ++ L) e1.symm (by rw [← e2]; exact X'.warmed.alike) hp hb k1 k2 k3 (by rw [e1]; exact hce) hcv hcl T' rfl X'
    exact ⟨t2, st.trans a1, b1⟩
theorem vx_callf {S SX : Type} {post : UInt32 → S → Prop} {px : SX → Prop} {B : S → State → Prop} {BX : String → SX → State → Prop} {AX : Nat → Prop} (hr : vx_Run p l e R s m args below meth c H locs cells slots mc ms (F0 m pc ls st0) rest (va_Qf post B A1 a) (vx_X px BX AX) free) (hS : va_S A0 H0 H locs) (hA : ∀ q, q < H.size → A1 q → A0 q) (hf : ∀ q, free q → A0 q) (hAX : ∀ q, q < H.size → AX q → A0 q)
    (kx : ∀ (E : String) (ce : Cell) (q9 : Addr) (u : SX) (t : State) (H1 : Heap) (locs1 : List Loc), t.heap = H1 → s.vm.Alike t.vm → px u → BX E u t → H.size ≤ H1.size → (∀ q : Nat, q < H.size → ¬ AX q → H1[q]? = H[q]?) → va_S A0 H0 H1 locs1 → H1[q9]? = some ce → ce.vm = .none → s.vm.findClass E = some ce.cls → vx_W p l e R s m args below meth c H1 locs1 (cells + mc) (slots + ms) Q (F0 m pc ls rest) q9)
    (kk : ∀ (r : UInt32) (u : S) (t : State) (H1 : Heap) (locs1 : List Loc), t.heap = H1 → s.vm.Alike t.vm → post r u → B u t → H.size ≤ H1.size → (∀ q : Nat, q < H.size → ¬ A1 q → H1[q]? = H[q]?) → va_S A0 H0 H1 locs1 → W p l e R s m args below meth c H1 locs1 (cells + mc) (slots + ms) Q (F0 m (pc + 3) ls (.float r :: rest))) : W p l e R s m args below meth c H locs cells slots Q (F0 m pc ls st0) := by
  intro T hT X
  rcases hr T hT X with ⟨v, st₀, t, T', L, h0, X', hL, e1, e2, ⟨⟨r, u, hv, hp, hb⟩, hF⟩, st⟩ | ⟨q, st₀, t, T', L, E, ce, h0, X', hL, e1, e2, ⟨u, hp, hb, hF⟩, hce, hcv, hcl, st⟩
  · cases hv
    obtain ⟨k1, k2, k3⟩ := vx_keep h0 e1 hS hA hf hL hF
    obtain ⟨t2, a1, b1⟩ := kk r u t T'.heap (locs ++ L) e1.symm (by rw [← e2]; exact X'.warmed.alike) hp hb k1 k2 k3 T' rfl X'
    exact ⟨t2, st t2 a1, b1⟩
  · obtain ⟨k1, k2, k3⟩ := vx_keep h0 e1 hS hAX hf hL hF
    obtain ⟨t2, a1, b1⟩ := kx E ce q u t T'.heap (locs ++ L) e1.symm (by rw [← e2]; exact X'.warmed.alike) hp hb k1 k2 k3 (by rw [e1]; exact hce) hcv hcl T' rfl X'
    exact ⟨t2, st.trans a1, b1⟩
theorem vx_calld {S SX : Type} {post : UInt64 → S → Prop} {px : SX → Prop} {B : S → State → Prop} {BX : String → SX → State → Prop} {AX : Nat → Prop} (hr : vx_Run p l e R s m args below meth c H locs cells slots mc ms (F0 m pc ls st0) rest (va_Qd post B A1 a) (vx_X px BX AX) free) (hS : va_S A0 H0 H locs) (hA : ∀ q, q < H.size → A1 q → A0 q) (hf : ∀ q, free q → A0 q) (hAX : ∀ q, q < H.size → AX q → A0 q)
    (kx : ∀ (E : String) (ce : Cell) (q9 : Addr) (u : SX) (t : State) (H1 : Heap) (locs1 : List Loc), t.heap = H1 → s.vm.Alike t.vm → px u → BX E u t → H.size ≤ H1.size → (∀ q : Nat, q < H.size → ¬ AX q → H1[q]? = H[q]?) → va_S A0 H0 H1 locs1 → H1[q9]? = some ce → ce.vm = .none → s.vm.findClass E = some ce.cls → vx_W p l e R s m args below meth c H1 locs1 (cells + mc) (slots + ms) Q (F0 m pc ls rest) q9)
    (kk : ∀ (r : UInt64) (u : S) (t : State) (H1 : Heap) (locs1 : List Loc), t.heap = H1 → s.vm.Alike t.vm → post r u → B u t → H.size ≤ H1.size → (∀ q : Nat, q < H.size → ¬ A1 q → H1[q]? = H[q]?) → va_S A0 H0 H1 locs1 → W p l e R s m args below meth c H1 locs1 (cells + mc) (slots + ms) Q (F0 m (pc + 3) ls (.double r :: rest))) : W p l e R s m args below meth c H locs cells slots Q (F0 m pc ls st0) := by
  intro T hT X
  rcases hr T hT X with ⟨v, st₀, t, T', L, h0, X', hL, e1, e2, ⟨⟨r, u, hv, hp, hb⟩, hF⟩, st⟩ | ⟨q, st₀, t, T', L, E, ce, h0, X', hL, e1, e2, ⟨u, hp, hb, hF⟩, hce, hcv, hcl, st⟩
  · cases hv
    obtain ⟨k1, k2, k3⟩ := vx_keep h0 e1 hS hA hf hL hF
    obtain ⟨t2, a1, b1⟩ := kk r u t T'.heap (locs ++ L) e1.symm (by rw [← e2]; exact X'.warmed.alike) hp hb k1 k2 k3 T' rfl X'
    exact ⟨t2, st t2 a1, b1⟩
  · obtain ⟨k1, k2, k3⟩ := vx_keep h0 e1 hS hAX hf hL hF
    obtain ⟨t2, a1, b1⟩ := kx E ce q u t T'.heap (locs ++ L) e1.symm (by rw [← e2]; exact X'.warmed.alike) hp hb k1 k2 k3 (by rw [e1]; exact hce) hcv hcl T' rfl X'
    exact ⟨t2, st.trans a1, b1⟩
theorem vx_callv {S SX : Type} {post : S → Prop} {px : SX → Prop} {B : S → State → Prop} {BX : String → SX → State → Prop} {AX : Nat → Prop} (hr : vx_Run p l e R s m args below meth c H locs cells slots mc ms (F0 m pc ls st0) rest (va_Qv post B A1 a) (vx_X px BX AX) free) (hS : va_S A0 H0 H locs) (hA : ∀ q, q < H.size → A1 q → A0 q) (hf : ∀ q, free q → A0 q) (hAX : ∀ q, q < H.size → AX q → A0 q)
    (kx : ∀ (E : String) (ce : Cell) (q9 : Addr) (u : SX) (t : State) (H1 : Heap) (locs1 : List Loc), t.heap = H1 → s.vm.Alike t.vm → px u → BX E u t → H.size ≤ H1.size → (∀ q : Nat, q < H.size → ¬ AX q → H1[q]? = H[q]?) → va_S A0 H0 H1 locs1 → H1[q9]? = some ce → ce.vm = .none → s.vm.findClass E = some ce.cls → vx_W p l e R s m args below meth c H1 locs1 (cells + mc) (slots + ms) Q (F0 m pc ls rest) q9)
    (kk : ∀ (u : S) (t : State) (H1 : Heap) (locs1 : List Loc), t.heap = H1 → s.vm.Alike t.vm → post u → B u t → H.size ≤ H1.size → (∀ q : Nat, q < H.size → ¬ A1 q → H1[q]? = H[q]?) → va_S A0 H0 H1 locs1 → W p l e R s m args below meth c H1 locs1 (cells + mc) (slots + ms) Q (F0 m (pc + 3) ls (rest))) : W p l e R s m args below meth c H locs cells slots Q (F0 m pc ls st0) := by
  intro T hT X
  rcases hr T hT X with ⟨v, st₀, t, T', L, h0, X', hL, e1, e2, ⟨⟨u, hv, hp, hb⟩, hF⟩, st⟩ | ⟨q, st₀, t, T', L, E, ce, h0, X', hL, e1, e2, ⟨u, hp, hb, hF⟩, hce, hcv, hcl, st⟩
  · cases hv
    obtain ⟨k1, k2, k3⟩ := vx_keep h0 e1 hS hA hf hL hF
    obtain ⟨t2, a1, b1⟩ := kk u t T'.heap (locs ++ L) e1.symm (by rw [← e2]; exact X'.warmed.alike) hp hb k1 k2 k3 T' rfl X'
    exact ⟨t2, st t2 a1, b1⟩
  · obtain ⟨k1, k2, k3⟩ := vx_keep h0 e1 hS hAX hf hL hF
    obtain ⟨t2, a1, b1⟩ := kx E ce q u t T'.heap (locs ++ L) e1.symm (by rw [← e2]; exact X'.warmed.alike) hp hb k1 k2 k3 (by rw [e1]; exact hce) hcv hcl T' rfl X'
    exact ⟨t2, st.trans a1, b1⟩
/-- caught by the row x of this method's table; the rows ahead don't take it -/
theorem vx_catch {own name : String} {E : String} {ce : Cell} {q : Addr} (hown : s.vm.findClass own = some m.cls) (pre : List ExceptionTableEntry) (x : ExceptionTableEntry) (suf : List ExceptionTableEntry) (hsplit : c.exceptionTable.toList = pre ++ x :: suf)
    (hpass : ∀ z ∈ pre, covers z pc = false ∨ (z.catchType ≠ 0 ∧ ∃ nm : String, (Cond.classLink own z.catchType nm).before args s = true ∧ va_Nc E nm s)) (hx : covers x pc = true) (h0 : x.catchType ≠ 0)
    (hlink : (Cond.classLink own x.catchType name).before args s = true) (hcast : (Cond.castable E name).before args s = true) (hcell : H[q]? = some ce) (hv : ce.vm = .none) (hcl : s.vm.findClass E = some ce.cls)
    (kk : W p l e R s m args below meth c H locs cells slots Q (F0 m x.handlerPc ls [.ref q])) : vx_W p l e R s m args below meth c H locs cells slots Q (F0 m pc ls rest) q := by
  intro T hT X
  have hpl : e.platform.magicAccessors = ({} : Platform).magicAccessors := by rw [X.admits.platform]
  obtain ⟨c3, c4, hc3, hc4, hasg⟩ := Cond.castable_spec hcast
  cases Option.some.inj (hc3.symm.trans hcl)
  obtain ⟨c5, hc5, hcl5⟩ := Cond.classLink_spec hown hlink e.platform hpl
  cases Option.some.inj (hc4.symm.trans hc5)
  obtain ⟨vm', X', st⟩ := X.thenCaughtThrough q (g := F0 m pc ls rest) rfl (Steps.refl _) (by rw [hT]; exact hcell) (by rw [hv]; rfl) (by obtain ⟨k9, h9, -⟩ := Vm.findClass_spec hcl; exact ⟨k9, h9⟩) pre x suf hsplit
    (fun z hz => by
      rcases hpass z hz with h | ⟨hz0, nm, hl1, hn1⟩
      · exact Or.inl h
      · obtain ⟨c6, hc6, hcl6⟩ := Cond.classLink_spec hown hl1 e.platform hpl
        obtain ⟨a8, b8, h1, h2, h3⟩ := hn1
        cases Option.some.inj (h1.symm.trans hcl)
        cases Option.some.inj (h2.symm.trans hc6)
        exact Or.inr ⟨hz0, _, hcl6, h3⟩) hx (Or.inr ⟨h0, c4, hcl5, hasg⟩)
  obtain ⟨t, a1, b1⟩ := kk (T.setVm vm') hT X'
  exact ⟨t, st.trans a1, b1⟩
end Rows
section Ends
variable {p : Program} {l : Launch} {e : Env} {R : Room} {s : State} {m : MethodId} {args : Array Value} {below : List Frame} {meth : Method} {c : Code} {H : Heap} {locs : List Loc} {cells slots : Nat} {Q : State → Prop}
variable {mc ms : Nat} {free : Addr → Prop} {A0 A1 : Nat → Prop} {H0 : Heap} {a : Array Value} {ls : Array Slot} {st0 rest : List Value}
variable {Qc : Array Value → State → Outcome → State → Prop} {XC : String → State → State → Prop}
/-- what a body that may throw owes at its end -/
def vx_MQ (below : List Frame) (Qc : Array Value → State → Outcome → State → Prop) (XC : String → State → State → Prop) (a : Array Value) (s : State) (mc ms : Nat) (free : Addr → Prop) : State → Prop := fun t =>
  ∃ o, t.status = .running ∧ Ended t below o ∧ vx_Q Qc XC mc ms free a s o t
theorem vx_ret {g : JFrame} {mc ms : Nat} (k : W p l e R s m args below meth c H locs cells slots (MQ below Qc args s mc ms free) g) : W p l e R s m args below meth c H locs cells slots (vx_MQ below Qc XC args s mc ms free) g := by
  intro T hT X
  obtain ⟨t, a1, o, b1, b2, b3, b4⟩ := k T hT X
  exact ⟨t, a1, o, b1, b2, Or.inl ⟨b3, b4⟩⟩
/-- not caught here: it goes on to the caller -/
theorem vx_widen {g : JFrame} {q : Addr} {k n : Nat} (h1 : cells ≤ k) (h2 : slots ≤ n) (kk : vx_W p l e R s m args below meth c H locs k n Q g q) : vx_W p l e R s m args below meth c H locs cells slots Q g q := fun T hT X => kk T hT (stand_widen X h1 h2)
theorem vx_out {pc : Nat} {E : String} {ce : Cell} {q : Addr} {mc ms : Nat} (hout : ∀ x ∈ c.exceptionTable.toList, covers x pc = false) (hlocks : meth.locks = false) (hcell : H[q]? = some ce) (hv : ce.vm = .none) (hcl : s.vm.findClass E = some ce.cls)
    (hx : ∀ t : State, t.heap = H → s.vm.Alike t.vm → XC E s t) (hf : ∀ z ∈ locs, free z.base) (hc : cells ≤ mc) (hs : slots ≤ ms) :
    vx_W p l e R s m args below meth c H locs cells slots (vx_MQ below Qc XC args s mc ms free) (F0 m pc ls rest) q := by
  intro T hT X
  obtain ⟨st1, hrun, hend, hW, hsm⟩ := X.leaveThrown q (g := F0 m pc ls rest) rfl rfl rfl hout hlocks
  have hcell9 : (T.setFrames (.throwing q :: below)).heap[q]? = some ce := by
    show T.heap[q]? = some ce
    rw [hT]; exact hcell
  exact ⟨_, st1, .threw q, hrun, hend, Or.inr ⟨q, rfl, E, ce, locs, hx _ hT hW.alike, hcell9, hv, hcl, hW, hsm.mono hc hs, hf⟩⟩
theorem vx_frame {U : State} {k n : Nat} (h : s.sameButNew ({ U with vm := s.vm } : State) locs k n) : s.heap.size ≤ U.heap.size ∧ ∀ q : Nat, q < s.heap.size → (∀ z ∈ locs, z.base ≠ q) → U.heap[q]? = s.heap[q]? := by
  obtain ⟨-, h2, -, -, -, h6⟩ := h
  refine ⟨h2, fun q hq hz => ?_⟩
  obtain ⟨c9, e1, e2, e3, e4⟩ := h6 q _ (Array.getElem?_eq_getElem hq)
  have hs : c9.slots = (s.heap[q]).slots := Array.ext_getElem? fun i => e4 i fun hm => hz _ hm rfl
  have h9 : c9 = s.heap[q] := by
    rw [hs] at e2
    exact e2
  have e5 : U.heap[q]? = some c9 := e1
  rw [e5, h9, Array.getElem?_eq_getElem hq]
/-- the words of a throw but the four that speak of the heap -/
def vx_no (w : Cond) : Bool := decide (w ≠ .isRef (.static Bundle.tN "UNASSIGNED_STACK" Bundle.steD)) && decide (w ≠ .isRef (.static Bundle.tN "SUPPRESSED_SENTINEL" Bundle.listD)) && decide (w ≠ .laysStatic Bundle.tN "UNASSIGNED_STACK" Bundle.steD) && decide (w ≠ .laysStatic Bundle.tN "SUPPRESSED_SENTINEL" Bundle.listD)
def vx_at0 (own : String) (ic : Nat) (X : String) (names : List String) : List Cond := (Bundle.ownAtoms0 own ic X names).filter vx_no
def vx_atS (own : String) (ic : Nat) (X : String) (names : List String) : List Cond := (Bundle.ownAtoms own ic X names).filter vx_no
/-- a word that the tables alone decide, or a good one -/
def vx_ot (w : Cond) : Bool := w.onTables || goodWord w
theorem vx_ot_at {args a' : Array Value} {s U : State} {w : Cond} (hW : s.WarmedH U.vm) (hvm : s.vm = U.vm) (hg : vx_ot w = true) (h : w.before args s = true) : w.before a' U = true := by
  simp only [vx_ot, Bool.or_eq_true] at hg
  rcases hg with hg | hg
  · exact va_tabs hg hvm h
  · exact word_at hW (good_of_word hg) h
/-- a list's words: the good ones out of the method's own list, the others by premises of their own -/
theorem vx_hat {args : Array Value} {s : State} {L B : List Cond} (h1 : ∀ w ∈ L.filter goodWord, w.before args s = true) (h2 : ∀ w ∈ L.filter (fun w => !goodWord w), w ∈ B) (h3 : ∀ w ∈ B, w.before args s = true) : ∀ w ∈ L, w.before args s = true := by
  intro w hw
  by_cases g : goodWord w = true
  · exact h1 w (List.mem_filter.mpr ⟨hw, g⟩)
  · refine h3 w (h2 w (List.mem_filter.mpr ⟨hw, ?_⟩))
    show (!goodWord w) = true
    cases hgw : goodWord w
    · rfl
    · exact absurd hgw g
theorem vx_c {args : Array Value} {s : State} {w : Cond} {B : List Cond} (h : w.before args s = true) (t : ∀ w ∈ B, w.before args s = true) : ∀ w' ∈ w :: B, w'.before args s = true := fun w' h' => (List.mem_cons.mp h').elim (fun e => by rw [e]; exact h) (t w')
theorem vx_n {args : Array Value} {s : State} : ∀ w ∈ ([] : List Cond), w.before args s = true := fun _ h => nomatch h
theorem vx_own {args : Array Value} {s : State} {L : List Cond} (h1 : ∀ w ∈ L.filter vx_no, w.before args s = true)
    (hU : (Cond.isRef (.static Bundle.tN "UNASSIGNED_STACK" Bundle.steD)).before args s = true) (hN : (Cond.isRef (.static Bundle.tN "SUPPRESSED_SENTINEL" Bundle.listD)).before args s = true)
    (lU : (Cond.laysStatic Bundle.tN "UNASSIGNED_STACK" Bundle.steD).before args s = true) (lN : (Cond.laysStatic Bundle.tN "SUPPRESSED_SENTINEL" Bundle.listD).before args s = true) : ∀ w ∈ L, w.before args s = true := by
  intro w hw
  by_cases e1 : w = .isRef (.static Bundle.tN "UNASSIGNED_STACK" Bundle.steD)
  · rw [e1]; exact hU
  · by_cases e2 : w = .isRef (.static Bundle.tN "SUPPRESSED_SENTINEL" Bundle.listD)
    · rw [e2]; exact hN
    · by_cases e3 : w = .laysStatic Bundle.tN "UNASSIGNED_STACK" Bundle.steD
      · rw [e3]; exact lU
      · by_cases e4 : w = .laysStatic Bundle.tN "SUPPRESSED_SENTINEL" Bundle.listD
        · rw [e4]; exact lN
        · exact h1 w (List.mem_filter.mpr ⟨hw, by unfold vx_no; rw [decide_eq_true e1, decide_eq_true e2, decide_eq_true e3, decide_eq_true e4]; rfl⟩)
/-- where a static field lies, its class's statics cell in H -/
def vx_L (C n d : String) (A : Nat → Prop) (U : State) (H : Heap) : Prop := ∃ (c : ClassId) (k : Class) (i : Nat) (f : Field) (a : Nat) (cell : Cell), U.vm.findClass C = some c ∧ U.fieldFound? C n d = some (c, k, i, f) ∧ f.isStatic = true ∧ k.statics = some a ∧ H[a]? = some cell ∧ cell.vm.isStatics = true ∧ cell.cls = c ∧ f.slot < cell.slots.size ∧ k.staticTypes[f.slot]? = some f.type ∧ ¬ A a
theorem vx_L.moved {C n d : String} {A : Nat → Prop} {u U : State} {H : Heap} (hvm : u.vm.Alike U.vm) (h : vx_L C n d A u H) : vx_L C n d A U H := by
  obtain ⟨c, k, i, f, a, cell, h1, h2, h3, h4, h5, h6, h7, h8, h9, h10⟩ := h
  obtain ⟨k', hi', he⟩ := State.fieldFound?_setVm hvm h2
  exact ⟨c, k', i, f, a, cell, by rw [hvm.findClass]; exact h1, hi', h3, by rw [he]; exact h4, h5, h6, h7, h8, by rw [he]; exact h9, h10⟩
theorem vx_L.kept {C n d : String} {A : Nat → Prop} {U : State} {H H1 : Heap} (h : vx_L C n d A U H) (hq : ∀ a : Nat, a < H.size → ¬ A a → H1[a]? = H[a]?) : vx_L C n d A U H1 := by
  obtain ⟨c, k, i, f, a, cell, h1, h2, h3, h4, h5, h6, h7, h8, h9, h10⟩ := h
  exact ⟨c, k, i, f, a, cell, h1, h2, h3, h4, by rw [hq a (Array.getElem?_eq_some_iff.mp h5).1 h10]; exact h5, h6, h7, h8, h9, h10⟩
theorem vx_L.narrow {C n d : String} {A B : Nat → Prop} {U : State} {H : Heap} (h : vx_L C n d A U H) (hAB : ∀ q, B q → A q) : vx_L C n d B U H := by
  obtain ⟨c, k, i, f, a, cell, h1, h2, h3, h4, h5, h6, h7, h8, h9, h10⟩ := h
  exact ⟨c, k, i, f, a, cell, h1, h2, h3, h4, h5, h6, h7, h8, h9, fun z => h10 (hAB _ z)⟩
theorem vx_L.word {C n d : String} {A : Nat → Prop} {s : State} {args : Array Value} (h : vx_L C n d A s s.heap) : (Cond.laysStatic C n d).before args s = true := by
  obtain ⟨c, k, i, f, a, cell, h1, h2, h3, h4, h5, h6, h7, h8, h9, -⟩ := h
  show (Cond.laysStatic C n d).holds args s none s [] = true
  exact Cond.laysStatic_of h1 h2 h3 h4 h5 h6 h7 h8 h9
/-- .. and what it holds: null or some reference -/
def vx_Zq (C n d : String) (A : Nat → Prop) (U : State) (H : Heap) : Prop := va_Zq C n d A U H ∧ vx_L C n d A U H
theorem vx_Zq.moved {C n d : String} {A : Nat → Prop} {u U : State} {H : Heap} (hvm : u.vm.Alike U.vm) (h : vx_Zq C n d A u H) : vx_Zq C n d A U H := ⟨va_Zq.moved hvm h.1, vx_L.moved hvm h.2⟩
theorem vx_Zq.kept {C n d : String} {A : Nat → Prop} {U : State} {H H1 : Heap} (h : vx_Zq C n d A U H) (hq : ∀ a : Nat, a < H.size → ¬ A a → H1[a]? = H[a]?) : vx_Zq C n d A U H1 := ⟨va_Zq.kept h.1 hq, vx_L.kept h.2 hq⟩
theorem vx_Zq.narrow {C n d : String} {A B : Nat → Prop} {U : State} {H : Heap} (h : vx_Zq C n d A U H) (hAB : ∀ q, B q → A q) : vx_Zq C n d B U H := ⟨va_Zq.narrow h.1 hAB, vx_L.narrow h.2 hAB⟩
theorem vx_Zqof {args : Array Value} {s : State} {C n d : String} {A : Nat → Prop} (hl : (Cond.laysStatic C n d).before args s = true) (hini : (Cond.initialized C).before args s = true) (h : (Cond.isRef (.static C n d)).before args s = true) (hA : ∀ a : Nat, a < s.heap.size → ¬ A a) : vx_Zq C n d A s s.heap := by
  refine ⟨va_Zqof hl hini h hA, ?_⟩
  obtain ⟨c, k, i, f, a, cell, h1, h2, h3, h4, h5, h6, h7, h8, h9⟩ := Cond.laysStatic_spec hl
  exact ⟨c, k, i, f, a, cell, h1, h2, h3, h4, h5, h6, h7, h8, h9, hA a (Array.getElem?_eq_some_iff.mp h5).1⟩
theorem vx_isRef {C n d : String} {v : Value} {A : Nat → Prop} {s : State} {args : Array Value} (h : va_Z C n d v A s s.heap) (hv : v.isRef = true) : (Cond.isRef (.static C n d)).before args s = true := by
  obtain ⟨cf, kf, fi, f, a, cell, h1, h2, h3, h4, h5, h6, h7, -⟩ := h
  have he : (Term.static C n d).eval args s none [] s = some v := by
    simp [Term.eval, State.fieldNamed?, h1, h2, h4, h5, h6, h7]
  simp only [Cond.before, Cond.holds, Cond.value, he]
  cases v <;> simp_all [Value.isRef]
theorem vx_isRefq {C n d : String} {A : Nat → Prop} {s : State} {args : Array Value} (h : va_Zq C n d A s s.heap) : (Cond.isRef (.static C n d)).before args s = true := by
  rcases h with h | ⟨t, h⟩
  · exact vx_isRef h rfl
  · exact vx_isRef h rfl
/-- the same frame, seen from here: as if the method were called anew in this heap -/
theorem vx_rebase {T : State} (X : Stand p l e R s m args below meth c T locs cells slots) {R' : Room} (hf : R'.frames ≤ R.frames) (hl : R'.locals ≤ R.locals) (hc : cells + R'.cells ≤ R.cells) (hs : slots + R'.slots ≤ R.slots) :
    Stand p l e R' ((T.setVm s.vm).setFrames (.invoking m args :: below)) m args below meth c T [] 0 0 := by
  have htop : (T.setVm s.vm).topJava?.isSome := X.here.top
  have hF : ((T.setVm s.vm).setFrames (.invoking m args :: below)).frames = .invoking m args :: below := State.frames_setFrames _ (State.cur_lt_of_top htop)
  obtain ⟨g₀, hg0⟩ := Option.isSome_iff_exists.mp htop
  obtain ⟨r, hr⟩ := State.topJava?_eq_some.mp hg0
  have hl9 : e.platform.stackLimits (T.setVm s.vm).me = e.platform.stackLimits s.me := X.limits
  have hb9 : (T.setVm s.vm).me.stackBytes = s.me.stackBytes := X.bytes
  refine ⟨X.admits, X.cas, X.clock, hF, ?_, X.hears, X.method, X.code, X.here, X.tail, X.warmed, ?_, ?_, ?_⟩
  · have h := X.room
    have hU : ((T.setVm s.vm).setFrames (.invoking m args :: below)).localsInUse = s.localsInUse := by
      rw [State.localsInUse_invoking hF (meth := meth) (c := c) X.method X.code, State.localsInUse_invoking X.frames X.method X.code]
    simp only [State.hasRoom, Bool.and_eq_true, decide_eq_true_eq] at h ⊢
    obtain ⟨⟨⟨⟨h1, h2, h3, h4, h5, h6⟩, h7⟩, h8⟩, h9⟩ := h
    rw [X.frames, List.length_cons] at h2 h3
    have q1 := X.heapSize
    have q2 := X.used
    simp only [hF, hU, List.length_cons, State.stackLimits_setFrames, State.stackBytes_setFrames, hl9, hb9]
    refine ⟨⟨⟨⟨by omega, by omega, by omega, by omega, by omega, h6⟩, ?_⟩, ?_⟩, X.book⟩
    · show T.heap.size + R'.cells ≤ e.platform.maxCells
      omega
    · show T.slotsUsed + R'.slots ≤ e.platform.maxSlots
      omega
  · rw [State.stackLimits_setFrames]; rfl
  · rw [State.stackBytes_setFrames]; rfl
  · refine ⟨?_, Nat.le_refl _, Nat.le_refl _, ?_, ?_, fun a c9 h9 => ⟨c9, h9, rfl, rfl, fun _ _ => rfl⟩⟩
    · obtain ⟨t, ht, -⟩ := State.frames_cons hr
      show T.setVm s.vm = { ((T.setVm s.vm).setFrames (.invoking m args :: below)).setFrames (T.setVm s.vm).frames with heap := T.heap, slotsUsed := T.slotsUsed }
      rw [State.setFrames_setFrames, State.setFrames_self ht]
      rfl
    · show T.slotsUsed = T.slotsUsed + ((T.heap.toList.drop T.heap.size).map (·.slots.size)).sum
      rw [List.drop_eq_nil_of_le (Nat.le_of_eq Array.length_toList)]
      rfl
    · show ((T.heap.toList.drop T.heap.size).map (·.slots.size)).sum ≤ 0
      rw [List.drop_eq_nil_of_le (Nat.le_of_eq Array.length_toList)]
      exact Nat.le_refl _
/-- 'throw new E()': new; dup; invokespecial; athrow -/
theorem vx_throw0 {cc : ByteArray} {pc : Nat} (hexec : p.tables.exec = Jvm.exec) (hb : c.code = cc) (hl : l.stackTraces = false) {own cls : String} {names : List String} {ik ic mc ms : Nat} {A : Nat → Prop}
    (hown : s.vm.findClass own = some m.cls) (hcls : Bundle.fit cls = true) (hnames : ∀ n ∈ names, Bundle.fit n = true)
    (hk : (Cond.classLink own ik cls).before args s = true) (hini : (Cond.initialized cls).before args s = true) (hat : ∀ w ∈ vx_at0 own ic cls names, w.before args s = true)
    (hgood : ∀ w ∈ Cond.classLink own ik cls :: Cond.initialized cls :: vx_at0 own ic cls names, vx_ot w = true)
    (hU : vx_Zq Bundle.tN "UNASSIGNED_STACK" Bundle.steD A s s.heap) (hN : vx_Zq Bundle.tN "SUPPRESSED_SENTINEL" Bundle.listD A s s.heap) (hS : va_S A s.heap H locs) (hsize : ls.size = c.maxLocals)
    (d0 : decode cc pc = .ok (.new ik, 3)) (d3 : decode cc (pc + 3) = .ok (.dup, 1)) (d4 : decode cc (pc + 4) = .ok (.invokespecial ic, 3)) (d7 : decode cc (pc + 7) = .ok (.athrow, 1))
    (hout : ∀ x ∈ c.exceptionTable.toList, covers x (pc + 7) = false)
    (hRframes : names.length + 3 < R.frames) (hRlocals : (rest.map fun v => v.category).sum + (13 * (names.length + 1) + 42) ≤ R.locals) (hRcells : cells + 1 ≤ R.cells) (hRslots : slots + 6 ≤ R.slots) (hlocks : meth.locks = false)
    (hx : ∀ t : State, s.vm.Alike t.vm → H.size ≤ t.heap.size → (∀ q : Nat, q < H.size → t.heap[q]? = H[q]?) → XC cls s t)
    (hf : ∀ z ∈ locs, free z.base) (hc : cells + 1 ≤ mc) (hs : slots + 6 ≤ ms) :
    W p l e R s m args below meth c H locs cells slots (vx_MQ below Qc XC args s mc ms free) (F0 m pc ls rest) := by
  intro T hT X
  have htr : e.platform.stackTraces = false := (show e.platform.stackTraces = l.stackTraces by rw [X.admits.platform]).trans hl
  have Y := vx_rebase X (R' := { frames := R.frames, locals := R.locals, cells := 1, slots := 6 }) (Nat.le_refl _) (Nat.le_refl _) hRcells hRslots
  obtain ⟨s', hA⟩ : ∃ z, z = (T.setVm s.vm).setFrames (.invoking m args :: below) := ⟨_, rfl⟩
  rw [← hA] at Y
  have hvm : s'.vm = s.vm := by rw [hA]; rfl
  have hhp : s'.heap = H := by rw [hA]; exact hT
  have hW0 : s.WarmedH s'.vm := by rw [hvm]; exact State.WarmedH.refl s
  have hat' : ∀ w ∈ vx_at0 own ic cls names, w.before args s' = true := fun w hw => vx_ot_at hW0 hvm.symm (hgood w (List.mem_cons_of_mem _ (List.mem_cons_of_mem _ hw))) (hat w hw)
  have hk' : (Cond.classLink own ik cls).before args s' = true := vx_ot_at hW0 hvm.symm (hgood _ List.mem_cons_self) hk
  have hini' : (Cond.initialized cls).before args s' = true := vx_ot_at hW0 hvm.symm (hgood _ (List.mem_cons_of_mem _ List.mem_cons_self)) hini
  have hU' : vx_Zq Bundle.tN "UNASSIGNED_STACK" Bundle.steD A s' s'.heap := by rw [hhp]; exact vx_Zq.moved hW0.alike (hU.kept hS.2.1)
  have hN' : vx_Zq Bundle.tN "SUPPRESSED_SENTINEL" Bundle.listD A s' s'.heap := by rw [hhp]; exact vx_Zq.moved hW0.alike (hN.kept hS.2.1)
  have h : ∀ w ∈ Bundle.ownAtoms0 own ic cls names, w.before args s' = true := vx_own hat' (vx_isRefq hU'.1) (vx_isRefq hN'.1) hU'.2.word hN'.2.word
  have hown' : s'.vm.findClass own = some m.cls := by rw [hvm]; exact hown
  have hins : (Cond.instantiable cls 6).before args s' = true := h _ (by simp [Bundle.ownAtoms0])
  obtain ⟨vm₁, cX, kX, hfX, hkX, -, -, X₁, st1⟩ := Y.newCold hexec (own := own) (C := cls) (index := ik) (n := 6) hown' hk' hins hini'
    (g := F0 m pc ls rest) rfl (by rw [hb]; exact d0) (Nat.le_refl _) (Nat.le_refl _)
  generalize hT1 : (T.setVm vm₁).pushCell { cls := cX, slots := kX.instanceTypes.map defaultValue, vm := .none } = T1 at X₁ st1
  have hcat : (Value.ref T.heap.size).category = 1 := rfl
  have hcellA : T1.heap[T.heap.size]? = some (freshCell cX kX) := by rw [← hT1]; exact State.heap_pushCell_size _ _
  have d3' : decode c.code (pc + 3) = .ok (.dup, 1) := by rw [hb]; exact d3
  obtain ⟨U, hsteps, hrun, hend, hW, hsame, ce, hce, hO⟩ := X₁.ctorThrow0 hexec htr (own := own) (cls := cls) (names := names) (ic := ic) hown' hcls hnames h (fun x hx => nomatch hx) hfX hkX hcellA (by rw [hhp, hT]; exact Nat.le_refl _)
    (g := { method := m, pc := pc + 4, locals := ls, stack := .ref T.heap.size :: .ref T.heap.size :: rest, locked := none }) rfl hsize rfl rfl (rest := rest) rfl
    (by rw [hb]; exact d4) (by rw [hb]; exact d7) hout hRframes (by simp only [List.map_cons, List.sum_cons, hcat]; omega) hlocks
  obtain ⟨f1, f2⟩ := vx_frame hsame
  rw [hhp] at f1 f2
  have hWs : s.WarmedH U.vm := State.WarmedH.trans hW0 hW
  have hcl : s.vm.findClass cls = some ce.cls := by
    have h9 := hO.cls
    rw [hvm] at h9
    exact h9
  have hall : s.sameButNew ({ U with vm := s.vm } : State) locs mc ms := by
    subst hA
    obtain ⟨e1, e2⟩ := hsame
    rw [State.setFrames_setFrames] at e1
    have h2 : (T.setVm s.vm).sameButNew ({ U with vm := s.vm } : State) [] (0 + 1) (0 + 6) := ⟨e1, e2⟩
    have h3 := X.same.trans h2
    rw [List.append_nil] at h3
    exact h3.mono hc hs
  refine ⟨U, ?_, .threw T.heap.size, hrun, hend, Or.inr ⟨T.heap.size, rfl, cls, ce, locs, hx U hWs.alike f1 (fun q hq => f2 q hq (fun z hz => nomatch hz)), hce, hO.vm, hcl, hWs, hall, hf⟩⟩
  refine st1 _ ?_
  show Steps p.tables e below (T1.setTop { method := m, pc := pc + 3, locals := ls, stack := .ref T.heap.size :: rest, locked := none }) _
  jvm_step X₁.here [X₁.here.top, hexec, d3', Value.category]
  exact hsteps
/-- 'throw new E("text")': new; dup; ldc; invokespecial; athrow -/
theorem vx_throwS {cc : ByteArray} {pc : Nat} (hexec : p.tables.exec = Jvm.exec) (hb : c.code = cc) (hl : l.stackTraces = false) {own cls text : String} {names : List String} {ik is ic mc ms sa : Nat} {A : Nat → Prop}
    (hown : s.vm.findClass own = some m.cls) (hcls : Bundle.fit cls = true) (hnames : ∀ n ∈ names, Bundle.fit n = true)
    (hk : (Cond.classLink own ik cls).before args s = true) (hini : (Cond.initialized cls).before args s = true) (hstr : vk_R own is text sa s) (hat : ∀ w ∈ vx_atS own ic cls names, w.before args s = true)
    (hgood : ∀ w ∈ Cond.classLink own ik cls :: Cond.initialized cls :: vx_atS own ic cls names, vx_ot w = true)
    (hU : vx_Zq Bundle.tN "UNASSIGNED_STACK" Bundle.steD A s s.heap) (hN : vx_Zq Bundle.tN "SUPPRESSED_SENTINEL" Bundle.listD A s s.heap) (hS : va_S A s.heap H locs) (hsize : ls.size = c.maxLocals)
    (d0 : decode cc pc = .ok (.new ik, 3)) (d3 : decode cc (pc + 3) = .ok (.dup, 1)) (d4 : decode cc (pc + 4) = .ok (.ldc is, 2)) (d6 : decode cc (pc + 6) = .ok (.invokespecial ic, 3)) (d9 : decode cc (pc + 9) = .ok (.athrow, 1))
    (hout : ∀ x ∈ c.exceptionTable.toList, covers x (pc + 9) = false)
    (hRframes : names.length + 3 < R.frames) (hRlocals : (rest.map fun v => v.category).sum + (13 * (names.length + 1) + 43) ≤ R.locals) (hRcells : cells + 1 ≤ R.cells) (hRslots : slots + 6 ≤ R.slots) (hlocks : meth.locks = false)
    (hx : ∀ t : State, s.vm.Alike t.vm → H.size ≤ t.heap.size → (∀ q : Nat, q < H.size → t.heap[q]? = H[q]?) → XC cls s t)
    (hf : ∀ z ∈ locs, free z.base) (hc : cells + 1 ≤ mc) (hs : slots + 6 ≤ ms) :
    W p l e R s m args below meth c H locs cells slots (vx_MQ below Qc XC args s mc ms free) (F0 m pc ls rest) := by
  intro T hT X
  have htr : e.platform.stackTraces = false := (show e.platform.stackTraces = l.stackTraces by rw [X.admits.platform]).trans hl
  have Y := vx_rebase X (R' := { frames := R.frames, locals := R.locals, cells := 1, slots := 6 }) (Nat.le_refl _) (Nat.le_refl _) hRcells hRslots
  obtain ⟨s', hA⟩ : ∃ z, z = (T.setVm s.vm).setFrames (.invoking m args :: below) := ⟨_, rfl⟩
  rw [← hA] at Y
  have hvm : s'.vm = s.vm := by rw [hA]; rfl
  have hhp : s'.heap = H := by rw [hA]; exact hT
  have hW0 : s.WarmedH s'.vm := by rw [hvm]; exact State.WarmedH.refl s
  have hat' : ∀ w ∈ vx_atS own ic cls names, w.before args s' = true := fun w hw => vx_ot_at hW0 hvm.symm (hgood w (List.mem_cons_of_mem _ (List.mem_cons_of_mem _ hw))) (hat w hw)
  have hk' : (Cond.classLink own ik cls).before args s' = true := vx_ot_at hW0 hvm.symm (hgood _ List.mem_cons_self) hk
  have hini' : (Cond.initialized cls).before args s' = true := vx_ot_at hW0 hvm.symm (hgood _ (List.mem_cons_of_mem _ List.mem_cons_self)) hini
  have hU' : vx_Zq Bundle.tN "UNASSIGNED_STACK" Bundle.steD A s' s'.heap := by rw [hhp]; exact vx_Zq.moved hW0.alike (hU.kept hS.2.1)
  have hN' : vx_Zq Bundle.tN "SUPPRESSED_SENTINEL" Bundle.listD A s' s'.heap := by rw [hhp]; exact vx_Zq.moved hW0.alike (hN.kept hS.2.1)
  have h : ∀ w ∈ Bundle.ownAtoms own ic cls names, w.before args s' = true := vx_own hat' (vx_isRefq hU'.1) (vx_isRefq hN'.1) hU'.2.word hN'.2.word
  have hown' : s'.vm.findClass own = some m.cls := by rw [hvm]; exact hown
  have hins : (Cond.instantiable cls 6).before args s' = true := h _ (by simp [Bundle.ownAtoms])
  obtain ⟨vm₁, cX, kX, hfX, hkX, -, -, X₁, st1⟩ := Y.newCold hexec (own := own) (C := cls) (index := ik) (n := 6) hown' hk' hins hini'
    (g := F0 m pc ls rest) rfl (by rw [hb]; exact d0) (Nat.le_refl _) (Nat.le_refl _)
  generalize hT1 : (T.setVm vm₁).pushCell { cls := cX, slots := kX.instanceTypes.map defaultValue, vm := .none } = T1 at X₁ st1
  have hcat : (Value.ref T.heap.size).category = 1 := rfl
  have hcellA : T1.heap[T.heap.size]? = some (freshCell cX kX) := by rw [← hT1]; exact State.heap_pushCell_size _ _
  have d3' : decode c.code (pc + 3) = .ok (.dup, 1) := by rw [hb]; exact d3
  have d4' : decode c.code (pc + 4) = .ok (.ldc is, 2) := by rw [hb]; exact d4
  have hstr' : vk_R own is text sa s' := vk_R.warm hW0 hstr
  obtain ⟨U, hsteps, hrun, hend, hW, hsame, ce, hce, hO⟩ := X₁.ctorThrowS hexec htr (own := own) (cls := cls) (names := names) (ic := ic) hown' hcls hnames h (fun x hx => nomatch hx) hfX hkX hcellA (by rw [hhp, hT]; exact Nat.le_refl _) (msg := .ref sa) rfl
    (g := { method := m, pc := pc + 6, locals := ls, stack := .ref sa :: .ref T.heap.size :: .ref T.heap.size :: rest, locked := none }) rfl hsize rfl rfl (rest := rest) rfl
    (by rw [hb]; exact d6) (by rw [hb]; exact d9) hout hRframes (by simp only [List.map_cons, List.sum_cons, hcat]; omega) hlocks
  obtain ⟨f1, f2⟩ := vx_frame hsame
  rw [hhp] at f1 f2
  have hWs : s.WarmedH U.vm := State.WarmedH.trans hW0 hW
  have hcl : s.vm.findClass cls = some ce.cls := by
    have h9 := hO.cls
    rw [hvm] at h9
    exact h9
  have hall : s.sameButNew ({ U with vm := s.vm } : State) locs mc ms := by
    subst hA
    obtain ⟨e1, e2⟩ := hsame
    rw [State.setFrames_setFrames] at e1
    have h2 : (T.setVm s.vm).sameButNew ({ U with vm := s.vm } : State) [] (0 + 1) (0 + 6) := ⟨e1, e2⟩
    have h3 := X.same.trans h2
    rw [List.append_nil] at h3
    exact h3.mono hc hs
  refine ⟨U, ?_, .threw T.heap.size, hrun, hend, Or.inr ⟨T.heap.size, rfl, cls, ce, locs, hx U hWs.alike f1 (fun q hq => f2 q hq (fun z hz => nomatch hz)), hce, hO.vm, hcl, hWs, hall, hf⟩⟩
  refine st1 _ ?_
  show Steps p.tables e below (T1.setTop { method := m, pc := pc + 3, locals := ls, stack := .ref T.heap.size :: rest, locked := none }) _
  jvm_step X₁.here [X₁.here.top, hexec, d3', Value.category]
  exact X₁.ldcString hexec (own := own) (text := text) (index := is) (a := sa) hown' hstr'.1 hstr'.2
    (g := { method := m, pc := pc + 4, locals := ls, stack := .ref T.heap.size :: .ref T.heap.size :: rest, locked := none }) rfl d4' _ hsteps
/-- 'throw new E("text")', the text by a wide index -/
theorem vx_throwSW {cc : ByteArray} {pc : Nat} (hexec : p.tables.exec = Jvm.exec) (hb : c.code = cc) (hl : l.stackTraces = false) {own cls text : String} {names : List String} {ik is ic mc ms sa : Nat} {A : Nat → Prop}
    (hown : s.vm.findClass own = some m.cls) (hcls : Bundle.fit cls = true) (hnames : ∀ n ∈ names, Bundle.fit n = true)
    (hk : (Cond.classLink own ik cls).before args s = true) (hini : (Cond.initialized cls).before args s = true) (hstr : vk_R own is text sa s) (hat : ∀ w ∈ vx_atS own ic cls names, w.before args s = true)
    (hgood : ∀ w ∈ Cond.classLink own ik cls :: Cond.initialized cls :: vx_atS own ic cls names, vx_ot w = true)
    (hU : vx_Zq Bundle.tN "UNASSIGNED_STACK" Bundle.steD A s s.heap) (hN : vx_Zq Bundle.tN "SUPPRESSED_SENTINEL" Bundle.listD A s s.heap) (hS : va_S A s.heap H locs) (hsize : ls.size = c.maxLocals)
    (d0 : decode cc pc = .ok (.new ik, 3)) (d3 : decode cc (pc + 3) = .ok (.dup, 1)) (d4 : decode cc (pc + 4) = .ok (.ldc_w is, 3)) (d7 : decode cc (pc + 7) = .ok (.invokespecial ic, 3)) (d10 : decode cc (pc + 10) = .ok (.athrow, 1))
    (hout : ∀ x ∈ c.exceptionTable.toList, covers x (pc + 10) = false)
    (hRframes : names.length + 3 < R.frames) (hRlocals : (rest.map fun v => v.category).sum + (13 * (names.length + 1) + 43) ≤ R.locals) (hRcells : cells + 1 ≤ R.cells) (hRslots : slots + 6 ≤ R.slots) (hlocks : meth.locks = false)
    (hx : ∀ t : State, s.vm.Alike t.vm → H.size ≤ t.heap.size → (∀ q : Nat, q < H.size → t.heap[q]? = H[q]?) → XC cls s t)
    (hf : ∀ z ∈ locs, free z.base) (hc : cells + 1 ≤ mc) (hs : slots + 6 ≤ ms) :
    W p l e R s m args below meth c H locs cells slots (vx_MQ below Qc XC args s mc ms free) (F0 m pc ls rest) := by
  intro T hT X
  have htr : e.platform.stackTraces = false := (show e.platform.stackTraces = l.stackTraces by rw [X.admits.platform]).trans hl
  have Y := vx_rebase X (R' := { frames := R.frames, locals := R.locals, cells := 1, slots := 6 }) (Nat.le_refl _) (Nat.le_refl _) hRcells hRslots
  obtain ⟨s', hA⟩ : ∃ z, z = (T.setVm s.vm).setFrames (.invoking m args :: below) := ⟨_, rfl⟩
  rw [← hA] at Y
  have hvm : s'.vm = s.vm := by rw [hA]; rfl
  have hhp : s'.heap = H := by rw [hA]; exact hT
  have hW0 : s.WarmedH s'.vm := by rw [hvm]; exact State.WarmedH.refl s
  have hat' : ∀ w ∈ vx_atS own ic cls names, w.before args s' = true := fun w hw => vx_ot_at hW0 hvm.symm (hgood w (List.mem_cons_of_mem _ (List.mem_cons_of_mem _ hw))) (hat w hw)
  have hk' : (Cond.classLink own ik cls).before args s' = true := vx_ot_at hW0 hvm.symm (hgood _ List.mem_cons_self) hk
  have hini' : (Cond.initialized cls).before args s' = true := vx_ot_at hW0 hvm.symm (hgood _ (List.mem_cons_of_mem _ List.mem_cons_self)) hini
  have hU' : vx_Zq Bundle.tN "UNASSIGNED_STACK" Bundle.steD A s' s'.heap := by rw [hhp]; exact vx_Zq.moved hW0.alike (hU.kept hS.2.1)
  have hN' : vx_Zq Bundle.tN "SUPPRESSED_SENTINEL" Bundle.listD A s' s'.heap := by rw [hhp]; exact vx_Zq.moved hW0.alike (hN.kept hS.2.1)
  have h : ∀ w ∈ Bundle.ownAtoms own ic cls names, w.before args s' = true := vx_own hat' (vx_isRefq hU'.1) (vx_isRefq hN'.1) hU'.2.word hN'.2.word
  have hown' : s'.vm.findClass own = some m.cls := by rw [hvm]; exact hown
  have hins : (Cond.instantiable cls 6).before args s' = true := h _ (by simp [Bundle.ownAtoms])
  obtain ⟨vm₁, cX, kX, hfX, hkX, -, -, X₁, st1⟩ := Y.newCold hexec (own := own) (C := cls) (index := ik) (n := 6) hown' hk' hins hini'
    (g := F0 m pc ls rest) rfl (by rw [hb]; exact d0) (Nat.le_refl _) (Nat.le_refl _)
  generalize hT1 : (T.setVm vm₁).pushCell { cls := cX, slots := kX.instanceTypes.map defaultValue, vm := .none } = T1 at X₁ st1
  have hcat : (Value.ref T.heap.size).category = 1 := rfl
  have hcellA : T1.heap[T.heap.size]? = some (freshCell cX kX) := by rw [← hT1]; exact State.heap_pushCell_size _ _
  have d3' : decode c.code (pc + 3) = .ok (.dup, 1) := by rw [hb]; exact d3
  have d4' : decode c.code (pc + 4) = .ok (.ldc_w is, 3) := by rw [hb]; exact d4
  have hstr' : vk_R own is text sa s' := vk_R.warm hW0 hstr
  obtain ⟨U, hsteps, hrun, hend, hW, hsame, ce, hce, hO⟩ := X₁.ctorThrowS hexec htr (own := own) (cls := cls) (names := names) (ic := ic) hown' hcls hnames h (fun x hx => nomatch hx) hfX hkX hcellA (by rw [hhp, hT]; exact Nat.le_refl _) (msg := .ref sa) rfl
    (g := { method := m, pc := pc + 7, locals := ls, stack := .ref sa :: .ref T.heap.size :: .ref T.heap.size :: rest, locked := none }) rfl hsize rfl rfl (rest := rest) rfl
    (by rw [hb]; exact d7) (by rw [hb]; exact d10) hout hRframes (by simp only [List.map_cons, List.sum_cons, hcat]; omega) hlocks
  obtain ⟨f1, f2⟩ := vx_frame hsame
  rw [hhp] at f1 f2
  have hWs : s.WarmedH U.vm := State.WarmedH.trans hW0 hW
  have hcl : s.vm.findClass cls = some ce.cls := by
    have h9 := hO.cls
    rw [hvm] at h9
    exact h9
  have hall : s.sameButNew ({ U with vm := s.vm } : State) locs mc ms := by
    subst hA
    obtain ⟨e1, e2⟩ := hsame
    rw [State.setFrames_setFrames] at e1
    have h2 : (T.setVm s.vm).sameButNew ({ U with vm := s.vm } : State) [] (0 + 1) (0 + 6) := ⟨e1, e2⟩
    have h3 := X.same.trans h2
    rw [List.append_nil] at h3
    exact h3.mono hc hs
  refine ⟨U, ?_, .threw T.heap.size, hrun, hend, Or.inr ⟨T.heap.size, rfl, cls, ce, locs, hx U hWs.alike f1 (fun q hq => f2 q hq (fun z hz => nomatch hz)), hce, hO.vm, hcl, hWs, hall, hf⟩⟩
  refine st1 _ ?_
  show Steps p.tables e below (T1.setTop { method := m, pc := pc + 3, locals := ls, stack := .ref T.heap.size :: rest, locked := none }) _
  jvm_step X₁.here [X₁.here.top, hexec, d3', Value.category]
  exact X₁.ldcStringW hexec (own := own) (text := text) (index := is) (a := sa) hown' hstr'.1 hstr'.2
    (g := { method := m, pc := pc + 4, locals := ls, stack := .ref T.heap.size :: .ref T.heap.size :: rest, locked := none }) rfl d4' _ hsteps
end Ends
section Bodies
variable {l : Launch}
theorem vx_ofW {y : MethodName} {ws ws' : List Cond} {rm : Room} {Pc : Array Value → State → Prop} {Qc : Array Value → State → Outcome → State → Prop} {XC : String → State → State → Prop} {mc ms : Nat} {free : Addr → Prop} {cc : ByteArray} {maxL : Nat} {ret : Option FieldType}
    (hy : plainName y.cls = true) (hw : ws = Cond.code y cc maxL ret :: ws')
    (body : ∀ p e s m args below meth c s₁, BodyLoose p l y (headSpec ws rm) cc maxL ret e s m args below meth c s₁ → c.maxLocals = maxL → (∀ x ∈ c.exceptionTable.toList, False) → Pc args s →
      W p l e (headSpec ws rm).room s m args below meth c s.heap [] 0 0 (vx_MQ below Qc XC args s mc ms free) (entryFrame m args maxL)) : vx_Met l y ws rm Pc Qc XC mc ms free := by
  refine MetFree.of_bodyS (code := cc) (maxLocals := maxL) (ret := ret) hy ?_ ?_
  · intro args s m h hn
    obtain ⟨meth, c, h1, h2, h3, h4, h5, h6, -, -⟩ := Cond.code_spec hn (atoms_spec (ws := ws) h _ (by rw [hw]; exact List.mem_cons_self))
    exact ⟨meth, c, h1, h2, h3, h4, h5, h6⟩
  · intro p e s m args below meth c s₁ B hml hP _
    have hh0 : s₁.heap = s.heap := by rw [B.state]; rfl
    have ht : ∀ x ∈ c.exceptionTable.toList, False := by
      obtain ⟨meth9, c9, h1, h2, -, -, -, -, h7, -⟩ := Cond.code_spec B.named (atoms_spec (ws := ws) B.pre _ (by rw [hw]; exact List.mem_cons_self))
      cases Option.some.inj (h1.symm.trans B.method)
      cases Option.some.inj (h2.symm.trans (Stand.of_body B).code)
      intro x hx
      rw [Array.isEmpty_iff.mp h7] at hx
      cases hx
    obtain ⟨t, a1, o, b1, b2, b3⟩ := body p e s m args below meth c s₁ B hml ht hP s₁ hh0 (Stand.of_body B)
    exact ⟨t, o, a1, b1, b2, b3⟩
/-- the table of a body with handlers -/
theorem vx_table {p : Program} {x y : MethodName} {S : Spec} {cc bytes : ByteArray} {maxL maxL' : Nat} {ret ret' : Option FieldType} {e : Env} {s s₁ : State} {m : MethodId} {args : Array Value} {below : List Frame} {meth : Method} {c : Code} {hh : List (Nat × Nat × Nat × Nat)}
    (B : BodyLoose p l y S cc maxL ret e s m args below meth c s₁) (h : (Cond.codeWith y bytes maxL' ret' hh).before args s = true) : c.exceptionTable.toList = tableOf hh := by
  obtain ⟨m9, meth9, c9, hn9, h1, h2, -, -, h6, -⟩ := Cond.codeWith_spec h
  cases Option.some.inj (hn9.symm.trans B.named)
  cases Option.some.inj (h1.symm.trans B.method)
  cases Option.some.inj (h2.symm.trans (Stand.of_body B).code)
  rw [← h6, table_eq]
end Bodies
end VXA
/-! ===== END ===== -/
/-! ===== BEGIN a static call of a method with an exception table ===== -/
section VXS
variable {p : Program} {l : Launch} {e : Env} {R : Room} {s : State} {m : MethodId} {args : Array Value} {below : List Frame} {meth : Method} {c : Code} {T : State} {H : Heap} {locs : List Loc} {cells slots : Nat}
abbrev vx_CSW (R : Room) (s : State) (args : Array Value) (own : String) (index : Nat) (y : MethodName) (bytes : ByteArray) (maxL : Nat) (ret : Option FieldType) (hh : List (Nat × Nat × Nat × Nat)) (ws : List Cond) (rm : Room) (mc ms n : Nat) : Prop :=
  (rm.cells = mc ∧ rm.slots = ms ∧ rm.frames + 1 ≤ R.frames ∧ 8 + (maxL + 11) + rm.locals ≤ R.locals ∧ (∀ w ∈ ws, ∀ (a' : Array Value) (U : State), s.WarmedH U.vm → w.before a' U = true) ∧ Cond.codeWith y bytes maxL ret hh ∈ ws) ∧
  (Cond.codeWith y bytes maxL ret hh).before args s = true ∧ (Cond.initialized y.cls).before args s = true ∧ (y.cls ≠ "java/lang/invoke/MethodHandle" ∧ y.cls ≠ "java/lang/invoke/VarHandle") ∧
  (∀ sig, parseMethodDescriptor y.desc = some sig → n = sig.parameters.length) ∧ (Cond.methodLink own index y).before args s = true ∧ (Cond.static y).before args s = true
theorem vx_cwSW {own : String} {index maxL mc ms : Nat} {y : MethodName} {bytes : ByteArray} {ret : Option FieldType} {hh : List (Nat × Nat × Nat × Nat)} {Ts ws ws' : List Cond} {rm : Room} (n : Nat) (ht : ∀ w ∈ Ts, w.before args s = true) (hT : GoodIn Ts (va_wsS own index y ws)) (hw : ws = Cond.codeWith y bytes maxL ret hh :: ws') (hrc : rm.cells = mc) (hrs : rm.slots = ms)
    (hd : y.cls ≠ "java/lang/invoke/MethodHandle" ∧ y.cls ≠ "java/lang/invoke/VarHandle" ∧ (parseMethodDescriptor y.desc).map (fun d => d.parameters.length) = some n) (hR : rm.frames + 1 ≤ R.frames ∧ 8 + (maxL + 11) + rm.locals ≤ R.locals) :
    vx_CSW R s args own index y bytes maxL ret hh ws rm mc ms n := by
  have ok : ∀ w ∈ va_wsS own index y ws, w.before args s = true := fun w h => ht w (hT w h).1
  have hG : GoodIn Ts ws := fun w h => hT w (by unfold va_wsS; exact List.mem_append_right _ h)
  have hc : Cond.codeWith y bytes maxL ret hh ∈ ws := by rw [hw]; exact List.mem_cons_self
  refine ⟨⟨hrc, hrs, hR.1, hR.2, pay_in ht hG, hc⟩, ht _ (hG _ hc).1, ok _ (by simp [va_wsS]), ⟨hd.1, hd.2.1⟩, fun sig h => ?_, ok _ (by simp [va_wsS]), ok _ (by simp [va_wsS])⟩
  have h2 := hd.2.2
  rw [h] at h2
  exact (Option.some.inj h2).symm
theorem vx_callSW (X : Stand p l e R s m args below meth c T locs cells slots) (hexec : p.tables.exec = Jvm.exec) {own : String} {index : Nat} {y : MethodName} {bytes : ByteArray} {maxL : Nat} {ret : Option FieldType} {hh : List (Nat × Nat × Nat × Nat)}
    (hown : s.vm.findClass own = some m.cls) (hlink : (Cond.methodLink own index y).before args s = true) (hstat : (Cond.static y).before args s = true) (hinit : (Cond.initialized y.cls).before args s = true)
    (hcode : (Cond.codeWith y bytes maxL ret hh).before args s = true) (hy : y.cls ≠ "java/lang/invoke/MethodHandle" ∧ y.cls ≠ "java/lang/invoke/VarHandle")
    {W9 : Nat} {Pre : Pt → Array Value → Prop} {Post : Pt → Array Value → Option Value → Pt → Prop} (hK : Back l R p e below s args y 3 W9 Pre Post)
    {g : JFrame} (hg : g.method = m) (hsize : g.locals.size = c.maxLocals) {argsL rest : List Value} (hlen : ∀ sig, parseMethodDescriptor y.desc = some sig → argsL.length = sig.parameters.length)
    (hstack : g.stack = argsL.reverse ++ rest) (hW : 2 * g.monitorRoom + (rest.map fun v => v.category).sum ≤ W9) (hdg : decode c.code g.pc = .ok (.invokestatic index, 3))
    (hpre : ∀ vm₁, s.WarmedH vm₁ → Pre ⟨T.setVm vm₁, locs, cells, slots⟩ argsL.toArray) :
    ∃ (v : Option Value) (vm₁ : Vm) (B : Pt), s.WarmedH vm₁ ∧ Stand p l e R s m args below meth c B.U B.locs B.cells B.slots ∧ Post ⟨T.setVm vm₁, locs, cells, slots⟩ argsL.toArray v B ∧
      ∀ target, Steps p.tables e below (B.U.setTop { g with pc := g.pc + 3, stack := v.toList ++ rest }) target → Steps p.tables e below (T.setTop g) target := by
  obtain ⟨mk, methM, cM, hnamed, hmethM, -, -, -, -, -, -, hsigM⟩ := Cond.codeWith_spec hcode
  have hstatic : methM.isStatic = true := Cond.static_spec hnamed hmethM hstat
  obtain ⟨kP, hkP, -⟩ := className_of_methodNamed hnamed
  have hinitP : kP.init = .initialized := Cond.initialized_spec (findClass_of_methodNamed hnamed) hkP hinit
  obtain ⟨vm₁, X₁, hstep₁⟩ := X.invokestatic hexec hown hlink hnamed hmethM hstatic hkP hinitP hy (g := g) hg (argsL := argsL) (rest := rest) (hlen _ hsigM) hstack hdg
  obtain ⟨v, B, X', hpost, hsteps⟩ := hK m meth c ⟨T.setVm vm₁, locs, cells, slots⟩ { g with stack := rest } (.invokestatic index) mk argsL.toArray X₁ hg hsize hdg hW (X₁.named hnamed) (hpre vm₁ X₁.warmed)
  exact ⟨v, vm₁, B, X₁.warmed, X', hpost, fun target h => hstep₁ _ fun acts => by rw [doInvoke_state]; exact hsteps.trans h⟩
theorem vx_runSW {y : MethodName} {bytes cc : ByteArray} {maxL nL mc ms n index : Nat} {ret : Option FieldType} {hh : List (Nat × Nat × Nat × Nat)} {ws : List Cond} {rm : Room} {Pc : Array Value → State → Prop} {Qc : Array Value → State → Outcome → State → Prop} {free : Addr → Prop} {Ts : List Cond} {own : String} {As rest : List Value} {g : JFrame}
    (S : CallFix p m c cc nL s args Ts own) (hM : Met l y ws rm Pc Qc mc ms free) (cw : vx_CSW R s args own index y bytes maxL ret hh ws rm mc ms n) (hp : PreS s H Pc As)
    (hg : g.method = m) (hn : As.length = n) (hsize : g.locals.size = nL) (hstack : g.stack = As.reverse ++ rest) (hW : 2 * g.monitorRoom + (rest.map fun v => v.category).sum ≤ 8) (hdg : decode cc g.pc = .ok (.invokestatic index, 3)) (hf : cells + mc ≤ R.cells ∧ slots + ms ≤ R.slots) :
    va_Run p l e R s m args below meth c H locs cells slots mc ms g rest (Qc As.toArray) (free) := by
  obtain ⟨⟨hrc, hrs, hfr, hlo, hws, hcw⟩, hcode, hini, hy, hlen, hl, hstt⟩ := cw
  have hK : Back l R p e below s args y 3 8 (PreOf R mc ms Pc) (PostOf Qc mc ms free) := va_backW (hh := hh) (bytes := bytes) (maxL := maxL) (ret := ret) hM hp.1 hrc hrs hfr hlo hws hcw (fun a' U hW => word_at hW (Or.inl (by first | rfl | simp [Cond.onTables, Cond.keeps, Cond.steady])) hini)
  obtain ⟨hx, hb, hml, ho, -⟩ := S
  intro T hT X
  obtain ⟨v, vm₁, ⟨U', l2, c2, s2⟩, hW₁, X', ⟨g', mk, t, L, e1, e2, hq, h1, hL, h2, h3⟩, st⟩ := vx_callSW X hx (hh := hh) (bytes := bytes) (maxL := maxL) (ret := ret) ho hl hstt hini hcode hy hK hg (hsize.trans hml.symm) (argsL := As) (rest := rest) (fun sig h => hn.trans (hlen sig h)) hstack hW (by rw [hb]; exact hdg)
    (fun vm₁ hW₁ => ⟨hf.1, hf.2, hp.2 (T.setVm vm₁) hT hW₁⟩)
  dsimp only [Pt.U, Pt.locs, Pt.cells, Pt.slots] at X' e1 e2 h1 h2 h3 st
  subst h1; subst h2; subst h3
  exact ⟨v, (T.setVm vm₁).calling g' mk As.toArray, t, U', L, hT, X', hL, e1, e2, hq, st⟩
/-- not caught here, past rows that name other classes: it goes on to the caller -/
theorem vx_outP {p : Program} {l : Launch} {e : Env} {R : Room} {s : State} {m : MethodId} {args : Array Value} {below : List Frame} {meth : Method} {c : Code} {H : Heap} {locs : List Loc} {cells slots : Nat} {free : Addr → Prop} {ls : Array Slot} {rest : List Value} {Qc : Array Value → State → Outcome → State → Prop} {XC : String → State → State → Prop}
    {pc : Nat} {own E : String} {ce : Cell} {q : Addr} {mc ms : Nat} (hown : s.vm.findClass own = some m.cls) (hlocks : meth.locks = false)
    (hpass : ∀ z ∈ c.exceptionTable.toList, covers z pc = false ∨ (z.catchType ≠ 0 ∧ ∃ nm : String, (Cond.classLink own z.catchType nm).before args s = true ∧ va_Nc E nm s)) (hcell : H[q]? = some ce) (hv : ce.vm = .none) (hcl : s.vm.findClass E = some ce.cls)
    (hx : ∀ t : State, t.heap = H → s.vm.Alike t.vm → XC E s t) (hf : ∀ z ∈ locs, free z.base) (hc : cells ≤ mc) (hs : slots ≤ ms) :
    vx_W p l e R s m args below meth c H locs cells slots (vx_MQ below Qc XC args s mc ms free) (F0 m pc ls rest) q := by
  intro T hT X
  have hpl : e.platform.magicAccessors = ({} : Platform).magicAccessors := by rw [X.admits.platform]
  obtain ⟨vm', hW', X', st⟩ := X.outThrough hlocks q (g := F0 m pc ls rest) rfl rfl rfl (cell := ce) (by rw [hT]; exact hcell) (by rw [hv]; rfl)
    (by obtain ⟨k9, h9, -⟩ := Vm.findClass_spec hcl; exact ⟨k9, h9⟩) (fun z hz => by
      rcases hpass z hz with h | ⟨hz0, nm, hl1, hn1⟩
      · exact Or.inl h
      · obtain ⟨c6, hc6, hcl6⟩ := Cond.classLink_spec hown hl1 e.platform hpl
        obtain ⟨a8, b8, h1, h2, h3⟩ := hn1
        cases Option.some.inj (h1.symm.trans hcl)
        cases Option.some.inj (h2.symm.trans hc6)
        exact Or.inr ⟨hz0, _, hcl6, h3⟩)
  obtain ⟨g₀, hfr⟩ := X'.frames_eq
  have hcell9 : ((T.setVm vm').setFrames (.throwing q :: below)).heap[q]? = some ce := by
    show T.heap[q]? = some ce
    rw [hT]; exact hcell
  have hend : Ended ((T.setVm vm').setFrames (.throwing q :: below)) below (.threw q) := State.frames_setFrames _ (State.cur_lt_of_frames hfr)
  refine ⟨(T.setVm vm').setFrames (.throwing q :: below), ?_, .threw q, X'.here.running, hend, Or.inr ⟨q, rfl, E, ce, locs, hx _ hT (X'.ends _).1.alike, hcell9, hv, hcl, (X'.ends _).1, (X'.ends _).2.mono hc hs, hf⟩⟩
  rw [X.pushThrowing_eq]
  exact st
/-- a thing of a world lies in the heap -/
theorem vx_lt {D : va_G} {cl : List vw_C} {ws : va_W} {H1 : Heap} (h : va_P D cl ws H1) {k : Nat} {q : Nat × va_E} (hk : ws[k]? = some q) : q.1 < H1.size := (h k q hk).lt
end VXS
/-! ===== END ===== -/
/-! ===== BEGIN methods with a table of their own: called by a name, returning or throwing ===== -/
section VXH
/-! vx_backW, vx_callVX, vx_callSX, vx_callVW, vx_runVW, vx_runVX, vx_runSX, vx_ofWH follow the same proofs as their sisters above (Free/Laws.lean, Shelf42/LK1.lean); vx_outP calls Shelf42/NT130.lean (outThrough). -/
section
variable {l : Launch} {R : Room} {p : Program} {e : Env} {below : List Frame} {s : State} {sargs : Array Value} {y : MethodName} {len W9 : Nat}
theorem vx_backW {ws : List Cond} {rm : Room} {Pc : Array Value → State → Prop} {Qc : Array Value → State → Outcome → State → Prop} {XC : String → State → State → Prop} {mc ms : Nat} {free : Addr → Prop} {bytes : ByteArray} {maxL : Nat} {ret : Option FieldType} {hh : List (Nat × Nat × Nat × Nat)}
    (hM : vx_Met l y ws rm Pc Qc XC mc ms free) (hblind : FrameBlind Pc) (hrc : rm.cells = mc) (hrs : rm.slots = ms)
    (hframes : rm.frames + 1 ≤ R.frames) (hlocals : W9 + (maxL + 11) + rm.locals ≤ R.locals)
    (hws : ∀ w ∈ ws, ∀ a' U, s.WarmedH U.vm → w.before a' U = true) (hcode : Cond.codeWith y bytes maxL ret hh ∈ ws) (hinit : ∀ a' U, s.WarmedH U.vm → (Cond.initialized y.cls).before a' U = true) :
    vx_Back l R p e below s sargs y len W9 (PreOf R mc ms Pc) (PostOf Qc mc ms free) (vx_Post XC mc ms free) := by
  intro m meth c A g ig mk a X hg hsize hdg hW hn hp
  have h1 : (headSpec ws rm).pre.before a A.U = true := atoms_intro fun w hw => hws w hw _ _ X.warmed
  have h2 : (Cond.codeWith y bytes maxL ret hh).before a A.U = true := hws _ hcode _ _ X.warmed
  have h3 : (Cond.initialized y.cls).before a A.U = true := hinit _ _ X.warmed
  have h4 : A.cells + (headSpec ws rm).room.cells ≤ R.cells := by rw [show (headSpec ws rm).room.cells = mc from hrc]; exact hp.1
  have h5 : A.slots + (headSpec ws rm).room.slots ≤ R.slots := by rw [show (headSpec ws rm).room.slots = ms from hrs]; exact hp.2.1
  have hPc : Pc a (A.U.calling g mk a) := hblind _ _ _ _ hp.2.2
  obtain ⟨U, Ls, c0, s0⟩ := A
  dsimp only [Pt.U, Pt.locs, Pt.cells, Pt.slots] at h1 h2 h3 h4 h5 X hn hPc ⊢
  obtain ⟨m9, methY, cY, hn9, hmY, hcY, -, hlY, -⟩ := Cond.codeWith_spec h2
  cases Option.some.inj (hn9.symm.trans hn)
  obtain ⟨kY, hkY, -⟩ := className_of_methodNamed hn
  have hinitY : kY.init = .initialized := Cond.initialized_spec (findClass_of_methodNamed hn) hkY h3
  have h : At U g.method c below := by rw [hg]; exact X.here
  have hlocals9 : W9 + (maxL + 11) + (headSpec ws rm).room.locals ≤ R.locals := hlocals
  have happ : (headSpec ws rm).appliesLoose y e.platform (U.calling g mk a) = true :=
    Spec.appliesLoose_calling (g := g) h hdg hn hkY hinitY
      (X.room_calling (g := g) (R' := (headSpec ws rm).room) hsize hmY hcY hframes (by rw [hlY]; omega) h4 h5) h1
  obtain ⟨mid, hmid⟩ := h.above
  have hfr : (U.setTop g).frames = (.java g :: mid) ++ below := by rw [State.frames_setTop' g h.top, hmid]; rfl
  obtain ⟨o, s₂, hsteps, -, hend, hq⟩ := Steps.callFree hM p X.admits X.cas X.clock (acts := []) hfr happ hPc trivial
  have hq' : vx_Q Qc XC mc ms free a (U.calling g mk a) o s₂ := hq
  rw [State.frames_setTop' g h.top] at hend
  obtain ⟨g₀, hg0⟩ := Option.isSome_iff_exists.mp h.top
  obtain ⟨r, hr⟩ := State.topJava?_eq_some.mp hg0
  have hr' : (({ U with heap := s₂.heap, slotsUsed := s₂.slotsUsed } : State).setVm s₂.vm).frames = .java g₀ :: r := hr
  rcases hq' with ⟨hqc, L, hfe, hL⟩ | ⟨q, rfl, E, ce, L, hx, hce, hcv, hcl, hW₂, hsm, hL⟩
  · obtain ⟨⟨v, rfl⟩, hW₂, e2, q2, q3, q4, q5, q6⟩ := id hfe
    have e3 : s₂ = ({ (U.calling g mk a).setFrames s₂.frames with heap := s₂.heap, slotsUsed := s₂.slotsUsed } : State).setVm s₂.vm := by
      have : s₂ = ({ s₂ with vm := (U.calling g mk a).vm } : State).setVm s₂.vm := rfl
      rw [e2] at this
      exact this
    obtain ⟨c₂, i₂, len₂, hc₂, hd₂, hf₂⟩ := hend
    have hW' : U.WarmedH s₂.vm := hW₂
    have hcc : c₂ = c := by
      have h1 : s₂.code? g.method = U.code? g.method := by
        rw [State.code?_eq, State.code?_eq, hW'.alike.method?]
      exact Option.some.inj (hc₂.symm.trans (h1.trans h.code))
    subst hcc
    have hlen : len₂ = len := by rw [hdg] at hd₂; cases hd₂; rfl
    subst hlen
    have hs₂ : s₂ = (({ U with heap := s₂.heap, slotsUsed := s₂.slotsUsed } : State).setVm s₂.vm).setTop { g with pc := g.pc + len₂, stack := v.toList ++ g.stack } := by
      refine e3.trans ?_
      rw [hf₂, State.calling_eq h.top, State.setFrames_setFrames, State.setTop_of_frames _ hr', hr]
      rfl
    have hsame : U.sameButNew ({ U with heap := s₂.heap, slotsUsed := s₂.slotsUsed } : State) L mc ms := by
      refine ⟨?_, q2, q3, q4, q5, q6⟩
      obtain ⟨t, ht, -⟩ := State.frames_cons hr
      show ({ U with heap := s₂.heap, slotsUsed := s₂.slotsUsed } : State) = { U.setFrames U.frames with heap := s₂.heap, slotsUsed := s₂.slotsUsed }
      rw [State.setFrames_self ht]
    subst hg
    refine Or.inl ⟨v, ⟨(({ U with heap := s₂.heap, slotsUsed := s₂.slotsUsed } : State).setVm s₂.vm), Ls ++ L, c0 + mc, s0 + ms⟩,
      ⟨X.admits, X.cas, X.clock, X.frames, X.room, X.hears, X.method, X.code, (X.here.setHeapUsed s₂.heap s₂.slotsUsed).setVm hW'.alike, X.tail, State.WarmedH.trans X.warmed hW', X.limits, X.bytes, X.same.trans (hsame.setVm s.vm)⟩,
      ⟨g, mk, s₂, L, rfl, rfl, hqc, rfl, hL, rfl, rfl⟩, ?_⟩
    show Steps p.tables e below _ ((({ U with heap := s₂.heap, slotsUsed := s₂.slotsUsed } : State).setVm s₂.vm).setTop { g with pc := g.pc + len₂, stack := v.toList ++ g.stack })
    rw [← hs₂]
    exact hsteps
  · obtain ⟨e2, q2, q3, q4, q5, q6⟩ := id hsm
    have e3 : s₂ = ({ (U.calling g mk a).setFrames s₂.frames with heap := s₂.heap, slotsUsed := s₂.slotsUsed } : State).setVm s₂.vm := by
      have : s₂ = ({ s₂ with vm := (U.calling g mk a).vm } : State).setVm s₂.vm := rfl
      rw [e2] at this
      exact this
    have hf₂ : s₂.frames = .throwing q :: .java g :: U.frames.tail := hend
    have hW' : U.WarmedH s₂.vm := hW₂
    have hs₂ : s₂ = ((({ U with heap := s₂.heap, slotsUsed := s₂.slotsUsed } : State).setVm s₂.vm).setTop g).pushFrame (.throwing q) := by
      refine e3.trans ?_
      rw [hf₂, State.calling_eq h.top, State.setFrames_setFrames, State.pushFrame, State.frames_setTop _ hr', State.setTop_of_frames _ hr', State.setFrames_setFrames, hr]
      rfl
    have hsame : U.sameButNew ({ U with heap := s₂.heap, slotsUsed := s₂.slotsUsed } : State) L mc ms := by
      refine ⟨?_, q2, q3, q4, q5, q6⟩
      obtain ⟨t, ht, -⟩ := State.frames_cons hr
      show ({ U with heap := s₂.heap, slotsUsed := s₂.slotsUsed } : State) = { U.setFrames U.frames with heap := s₂.heap, slotsUsed := s₂.slotsUsed }
      rw [State.setFrames_self ht]
    subst hg
    refine Or.inr ⟨q, ⟨(({ U with heap := s₂.heap, slotsUsed := s₂.slotsUsed } : State).setVm s₂.vm), Ls ++ L, c0 + mc, s0 + ms⟩,
      ⟨X.admits, X.cas, X.clock, X.frames, X.room, X.hears, X.method, X.code, (X.here.setHeapUsed s₂.heap s₂.slotsUsed).setVm hW'.alike, X.tail, State.WarmedH.trans X.warmed hW', X.limits, X.bytes, X.same.trans (hsame.setVm s.vm)⟩,
      ⟨g, mk, s₂, L, E, ce, rfl, rfl, hx, hce, hcv, hcl, rfl, hL, rfl, rfl⟩, ?_⟩
    show Steps p.tables e below _ (((({ U with heap := s₂.heap, slotsUsed := s₂.slotsUsed } : State).setVm s₂.vm).setTop g).pushFrame (.throwing q))
    rw [← hs₂]
    exact hsteps
end
variable {p : Program} {l : Launch} {e : Env} {R : Room} {s : State} {m : MethodId} {args : Array Value} {below : List Frame} {meth : Method} {c : Code} {T : State} {H : Heap} {locs : List Loc} {cells slots : Nat}
theorem vx_callVX (X : Stand p l e R s m args below meth c T locs cells slots) (hexec : p.tables.exec = Jvm.exec) {own C : String} {index : Nat} {y : MethodName} {bytes : ByteArray} {maxL : Nat} {ret : Option FieldType} {hh : List (Nat × Nat × Nat × Nat)}
    (hown : s.vm.findClass own = some m.cls) (hlink : (Cond.methodLink own index y).before args s = true) (hinst : (Cond.instanceMethod y).before args s = true) (hsel : (Cond.selects C y y).before args s = true)
    (hcode : (Cond.codeWith y bytes maxL ret hh).before args s = true) (hy : y.cls ≠ "java/lang/invoke/MethodHandle" ∧ y.cls ≠ "java/lang/invoke/VarHandle")
    {W9 : Nat} {Pre : Pt → Array Value → Prop} {Post : Pt → Array Value → Option Value → Pt → Prop} {PostX : Pt → Array Value → Addr → Pt → Prop} (hK : vx_Back l R p e below s args y 3 W9 Pre Post PostX)
    {b : Addr} {cellB : Cell} (hcell : T.heap[b]? = some cellB) (hobj : cellB.vm.isStatics = false) (hcls : s.vm.findClass C = some cellB.cls)
    {g : JFrame} (hg : g.method = m) (hsize : g.locals.size = c.maxLocals) {argsL rest : List Value} (hlen : ∀ sig, parseMethodDescriptor y.desc = some sig → argsL.length = sig.parameters.length)
    (hstack : g.stack = argsL.reverse ++ .ref b :: rest) (hW : 2 * g.monitorRoom + (rest.map fun v => v.category).sum ≤ W9) (hdg : decode c.code g.pc = .ok (.invokevirtual index, 3))
    (hpre : ∀ vm₁, s.WarmedH vm₁ → Pre ⟨T.setVm vm₁, locs, cells, slots⟩ (Value.ref b :: argsL).toArray) :
    (∃ (v : Option Value) (vm₁ : Vm) (B : Pt), s.WarmedH vm₁ ∧ Stand p l e R s m args below meth c B.U B.locs B.cells B.slots ∧ Post ⟨T.setVm vm₁, locs, cells, slots⟩ (Value.ref b :: argsL).toArray v B ∧
      ∀ target, Steps p.tables e below (B.U.setTop { g with pc := g.pc + 3, stack := v.toList ++ rest }) target → Steps p.tables e below (T.setTop g) target) ∨
    (∃ (q : Addr) (vm₁ : Vm) (B : Pt), s.WarmedH vm₁ ∧ Stand p l e R s m args below meth c B.U B.locs B.cells B.slots ∧ PostX ⟨T.setVm vm₁, locs, cells, slots⟩ (Value.ref b :: argsL).toArray q B ∧
      Steps p.tables e below (T.setTop g) ((B.U.setTop { g with stack := rest }).pushFrame (.throwing q))) := by
  obtain ⟨mk, methM, hnamed, hmethM, hstM, habM⟩ := Cond.instanceMethod_spec hinst
  obtain ⟨m8, methM', cM, hn8, hmethM', -, -, -, -, -, -, hsigM⟩ := Cond.codeWith_spec hcode
  cases Option.some.inj (hn8.symm.trans hnamed)
  cases hmethM.symm.trans hmethM'
  obtain ⟨c2, r2, m2, q1, q2, q3, q4, kP, hkP, hkPi⟩ := Cond.selects_spec hsel
  cases hcls.symm.trans q1
  cases (State.methodFound?_of_named hnamed hy).symm.trans q2
  cases hnamed.symm.trans q3
  have hselP : selectMethod e.platform s.vm cellB.cls mk = .method mk := by rw [Launch.admits_selectMethod X.admits]; exact q4
  obtain ⟨vm₁, X₁, hstep₁⟩ := X.invokevirtual hexec hown hlink hnamed hmethM hstM hkP hkPi hy (a := b) (cell := cellB) hcell
    (fun z h => by rw [h] at hobj; cases hobj) hselP hmethM habM hkP hkPi (g := g) hg (argsL := argsL) (rest := rest) (hlen _ hsigM) hstack hdg
  rcases hK m meth c ⟨T.setVm vm₁, locs, cells, slots⟩ { g with stack := rest } (.invokevirtual index) mk (Value.ref b :: argsL).toArray X₁ hg hsize hdg hW (X₁.named hnamed) (hpre vm₁ X₁.warmed) with ⟨v, B, X', hpost, hsteps⟩ | ⟨q, B, X', hpost, hsteps⟩
  · exact Or.inl ⟨v, vm₁, B, X₁.warmed, X', hpost, fun target h => hstep₁ _ fun acts => by rw [doInvoke_state]; exact hsteps.trans h⟩
  · exact Or.inr ⟨q, vm₁, B, X₁.warmed, X', hpost, hstep₁ _ fun acts => by rw [doInvoke_state]; exact hsteps⟩
theorem vx_callSX (X : Stand p l e R s m args below meth c T locs cells slots) (hexec : p.tables.exec = Jvm.exec) {own : String} {index : Nat} {y : MethodName} {bytes : ByteArray} {maxL : Nat} {ret : Option FieldType} {hh : List (Nat × Nat × Nat × Nat)}
    (hown : s.vm.findClass own = some m.cls) (hlink : (Cond.methodLink own index y).before args s = true) (hstat : (Cond.static y).before args s = true) (hinit : (Cond.initialized y.cls).before args s = true)
    (hcode : (Cond.codeWith y bytes maxL ret hh).before args s = true) (hy : y.cls ≠ "java/lang/invoke/MethodHandle" ∧ y.cls ≠ "java/lang/invoke/VarHandle")
    {W9 : Nat} {Pre : Pt → Array Value → Prop} {Post : Pt → Array Value → Option Value → Pt → Prop} {PostX : Pt → Array Value → Addr → Pt → Prop} (hK : vx_Back l R p e below s args y 3 W9 Pre Post PostX)
    {g : JFrame} (hg : g.method = m) (hsize : g.locals.size = c.maxLocals) {argsL rest : List Value} (hlen : ∀ sig, parseMethodDescriptor y.desc = some sig → argsL.length = sig.parameters.length)
    (hstack : g.stack = argsL.reverse ++ rest) (hW : 2 * g.monitorRoom + (rest.map fun v => v.category).sum ≤ W9) (hdg : decode c.code g.pc = .ok (.invokestatic index, 3))
    (hpre : ∀ vm₁, s.WarmedH vm₁ → Pre ⟨T.setVm vm₁, locs, cells, slots⟩ argsL.toArray) :
    (∃ (v : Option Value) (vm₁ : Vm) (B : Pt), s.WarmedH vm₁ ∧ Stand p l e R s m args below meth c B.U B.locs B.cells B.slots ∧ Post ⟨T.setVm vm₁, locs, cells, slots⟩ argsL.toArray v B ∧
      ∀ target, Steps p.tables e below (B.U.setTop { g with pc := g.pc + 3, stack := v.toList ++ rest }) target → Steps p.tables e below (T.setTop g) target) ∨
    (∃ (q : Addr) (vm₁ : Vm) (B : Pt), s.WarmedH vm₁ ∧ Stand p l e R s m args below meth c B.U B.locs B.cells B.slots ∧ PostX ⟨T.setVm vm₁, locs, cells, slots⟩ argsL.toArray q B ∧
      Steps p.tables e below (T.setTop g) ((B.U.setTop { g with stack := rest }).pushFrame (.throwing q))) := by
  obtain ⟨mk, methM, cM, hnamed, hmethM, -, -, -, -, -, -, hsigM⟩ := Cond.codeWith_spec hcode
  have hstatic : methM.isStatic = true := Cond.static_spec hnamed hmethM hstat
  obtain ⟨kP, hkP, -⟩ := className_of_methodNamed hnamed
  have hinitP : kP.init = .initialized := Cond.initialized_spec (findClass_of_methodNamed hnamed) hkP hinit
  obtain ⟨vm₁, X₁, hstep₁⟩ := X.invokestatic hexec hown hlink hnamed hmethM hstatic hkP hinitP hy (g := g) hg (argsL := argsL) (rest := rest) (hlen _ hsigM) hstack hdg
  rcases hK m meth c ⟨T.setVm vm₁, locs, cells, slots⟩ { g with stack := rest } (.invokestatic index) mk argsL.toArray X₁ hg hsize hdg hW (X₁.named hnamed) (hpre vm₁ X₁.warmed) with ⟨v, B, X', hpost, hsteps⟩ | ⟨q, B, X', hpost, hsteps⟩
  · exact Or.inl ⟨v, vm₁, B, X₁.warmed, X', hpost, fun target h => hstep₁ _ fun acts => by rw [doInvoke_state]; exact hsteps.trans h⟩
  · exact Or.inr ⟨q, vm₁, B, X₁.warmed, X', hpost, hstep₁ _ fun acts => by rw [doInvoke_state]; exact hsteps⟩
theorem vx_callVW (X : Stand p l e R s m args below meth c T locs cells slots) (hexec : p.tables.exec = Jvm.exec) {own C : String} {index : Nat} {y : MethodName} {bytes : ByteArray} {maxL : Nat} {ret : Option FieldType} {hh : List (Nat × Nat × Nat × Nat)}
    (hown : s.vm.findClass own = some m.cls) (hlink : (Cond.methodLink own index y).before args s = true) (hinst : (Cond.instanceMethod y).before args s = true) (hsel : (Cond.selects C y y).before args s = true)
    (hcode : (Cond.codeWith y bytes maxL ret hh).before args s = true) (hy : y.cls ≠ "java/lang/invoke/MethodHandle" ∧ y.cls ≠ "java/lang/invoke/VarHandle")
    {W9 : Nat} {Pre : Pt → Array Value → Prop} {Post : Pt → Array Value → Option Value → Pt → Prop} (hK : Back l R p e below s args y 3 W9 Pre Post)
    {b : Addr} {cellB : Cell} (hcell : T.heap[b]? = some cellB) (hobj : cellB.vm.isStatics = false) (hcls : s.vm.findClass C = some cellB.cls)
    {g : JFrame} (hg : g.method = m) (hsize : g.locals.size = c.maxLocals) {argsL rest : List Value} (hlen : ∀ sig, parseMethodDescriptor y.desc = some sig → argsL.length = sig.parameters.length)
    (hstack : g.stack = argsL.reverse ++ .ref b :: rest) (hW : 2 * g.monitorRoom + (rest.map fun v => v.category).sum ≤ W9) (hdg : decode c.code g.pc = .ok (.invokevirtual index, 3))
    (hpre : ∀ vm₁, s.WarmedH vm₁ → Pre ⟨T.setVm vm₁, locs, cells, slots⟩ (Value.ref b :: argsL).toArray) :
    ∃ (v : Option Value) (vm₁ : Vm) (B : Pt), s.WarmedH vm₁ ∧ Stand p l e R s m args below meth c B.U B.locs B.cells B.slots ∧ Post ⟨T.setVm vm₁, locs, cells, slots⟩ (Value.ref b :: argsL).toArray v B ∧
      ∀ target, Steps p.tables e below (B.U.setTop { g with pc := g.pc + 3, stack := v.toList ++ rest }) target → Steps p.tables e below (T.setTop g) target := by
  obtain ⟨mk, methM, hnamed, hmethM, hstM, habM⟩ := Cond.instanceMethod_spec hinst
  obtain ⟨m8, methM', cM, hn8, hmethM', -, -, -, -, -, -, hsigM⟩ := Cond.codeWith_spec hcode
  cases Option.some.inj (hn8.symm.trans hnamed)
  cases hmethM.symm.trans hmethM'
  obtain ⟨c2, r2, m2, q1, q2, q3, q4, kP, hkP, hkPi⟩ := Cond.selects_spec hsel
  cases hcls.symm.trans q1
  cases (State.methodFound?_of_named hnamed hy).symm.trans q2
  cases hnamed.symm.trans q3
  have hselP : selectMethod e.platform s.vm cellB.cls mk = .method mk := by rw [Launch.admits_selectMethod X.admits]; exact q4
  obtain ⟨vm₁, X₁, hstep₁⟩ := X.invokevirtual hexec hown hlink hnamed hmethM hstM hkP hkPi hy (a := b) (cell := cellB) hcell
    (fun z h => by rw [h] at hobj; cases hobj) hselP hmethM habM hkP hkPi (g := g) hg (argsL := argsL) (rest := rest) (hlen _ hsigM) hstack hdg
  obtain ⟨v, B, X', hpost, hsteps⟩ := hK m meth c ⟨T.setVm vm₁, locs, cells, slots⟩ { g with stack := rest } (.invokevirtual index) mk (Value.ref b :: argsL).toArray X₁ hg hsize hdg hW (X₁.named hnamed) (hpre vm₁ X₁.warmed)
  exact ⟨v, vm₁, B, X₁.warmed, X', hpost, fun target h => hstep₁ _ fun acts => by rw [doInvoke_state]; exact hsteps.trans h⟩
abbrev vx_CVW (R : Room) (s : State) (args : Array Value) (own C : String) (index : Nat) (y : MethodName) (bytes : ByteArray) (maxL : Nat) (ret : Option FieldType) (hh : List (Nat × Nat × Nat × Nat)) (ws : List Cond) (rm : Room) (mc ms n : Nat) : Prop :=
  (rm.cells = mc ∧ rm.slots = ms ∧ rm.frames + 1 ≤ R.frames ∧ 8 + (maxL + 11) + rm.locals ≤ R.locals ∧ (∀ w ∈ ws, ∀ (a' : Array Value) (U : State), s.WarmedH U.vm → w.before a' U = true) ∧ Cond.codeWith y bytes maxL ret hh ∈ ws) ∧
  (Cond.codeWith y bytes maxL ret hh).before args s = true ∧ (Cond.initialized y.cls).before args s = true ∧ (y.cls ≠ "java/lang/invoke/MethodHandle" ∧ y.cls ≠ "java/lang/invoke/VarHandle") ∧
  (∀ sig, parseMethodDescriptor y.desc = some sig → n = sig.parameters.length) ∧ (Cond.methodLink own index y).before args s = true ∧ (Cond.instanceMethod y).before args s = true ∧ (Cond.selects C y y).before args s = true
theorem vx_cwVW {own C : String} {index maxL mc ms : Nat} {y : MethodName} {bytes : ByteArray} {ret : Option FieldType} {hh : List (Nat × Nat × Nat × Nat)} {Ts ws ws' : List Cond} {rm : Room} (n : Nat) (ht : ∀ w ∈ Ts, w.before args s = true) (hT : GoodIn Ts (wsV own index C y ws)) (hw : ws = Cond.codeWith y bytes maxL ret hh :: ws') (hrc : rm.cells = mc) (hrs : rm.slots = ms)
    (hd : y.cls = C ∧ y.cls ≠ "java/lang/invoke/MethodHandle" ∧ y.cls ≠ "java/lang/invoke/VarHandle" ∧ (parseMethodDescriptor y.desc).map (fun d => d.parameters.length) = some n) (hR : rm.frames + 1 ≤ R.frames ∧ 8 + (maxL + 11) + rm.locals ≤ R.locals) :
    vx_CVW R s args own C index y bytes maxL ret hh ws rm mc ms n := by
  obtain ⟨hC, hd⟩ := hd
  subst hC
  have ok : ∀ w ∈ wsV own index y.cls y ws, w.before args s = true := fun w h => ht w (hT w h).1
  have hG : GoodIn Ts ws := fun w h => hT w (by unfold wsV; exact List.mem_append_right _ h)
  have hc : Cond.codeWith y bytes maxL ret hh ∈ ws := by rw [hw]; exact List.mem_cons_self
  refine ⟨⟨hrc, hrs, hR.1, hR.2, pay_in ht hG, hc⟩, ht _ (hG _ hc).1, ok _ (by simp [wsV]), ⟨hd.1, hd.2.1⟩, fun sig h => ?_, ok _ (by simp [wsV]), ok _ (by simp [wsV]), ok _ (by simp [wsV])⟩
  have h2 := hd.2.2
  rw [h] at h2
  exact (Option.some.inj h2).symm
theorem vx_runVW {y : MethodName} {bytes cc : ByteArray} {maxL nL mc ms n index : Nat} {ret : Option FieldType} {hh : List (Nat × Nat × Nat × Nat)} {ws : List Cond} {rm : Room} {Pc : Array Value → State → Prop} {Qc : Array Value → State → Outcome → State → Prop} {free : Addr → Prop} {Ts : List Cond} {own C : String} {b : Addr} {As rest : List Value} {g : JFrame}
    (S : CallFix p m c cc nL s args Ts own) (hM : Met l y ws rm Pc Qc mc ms free) (cw : vx_CVW R s args own C index y bytes maxL ret hh ws rm mc ms n) (hp : PreV s H C b Pc As)
    (hg : g.method = m) (hn : As.length = n) (hsize : g.locals.size = nL) (hstack : g.stack = As.reverse ++ .ref b :: rest) (hW : 2 * g.monitorRoom + (rest.map fun v => v.category).sum ≤ 8) (hdg : decode cc g.pc = .ok (.invokevirtual index, 3)) (hf : cells + mc ≤ R.cells ∧ slots + ms ≤ R.slots) :
    va_Run p l e R s m args below meth c H locs cells slots mc ms g rest (Qc (Value.ref b :: As).toArray) free := by
  obtain ⟨⟨hrc, hrs, hfr, hlo, hws, hcw⟩, hcode, hini, hy, hlen, hl, hin, hse⟩ := cw
  have hK : Back l R p e below s args y 3 8 (PreOf R mc ms Pc) (PostOf Qc mc ms free) := va_backW (hh := hh) (bytes := bytes) (maxL := maxL) (ret := ret) hM hp.1 hrc hrs hfr hlo hws hcw (fun a' U hW => word_at hW (Or.inl (by first | rfl | simp [Cond.onTables, Cond.keeps, Cond.steady])) hini)
  obtain ⟨hx, hb, hml, ho, -⟩ := S
  obtain ⟨-, ⟨cellB, hcB, hoB, hclB⟩, hPc⟩ := hp
  intro T hT X
  obtain ⟨v, vm₁, ⟨U', l2, c2, s2⟩, hW₁, X', ⟨g', mk, t, L, e1, e2, hq, h1, hL, h2, h3⟩, st⟩ := vx_callVW X hx (C := C) (hh := hh) (bytes := bytes) (maxL := maxL) (ret := ret) ho hl hin hse hcode hy hK (by rw [hT]; exact hcB) hoB hclB hg (hsize.trans hml.symm) (argsL := As) (rest := rest) (fun sig h => hn.trans (hlen sig h)) hstack hW (by rw [hb]; exact hdg)
    (fun vm₁ hW₁ => ⟨hf.1, hf.2, hPc (T.setVm vm₁) hT hW₁⟩)
  dsimp only [Pt.U, Pt.locs, Pt.cells, Pt.slots] at X' e1 e2 h1 h2 h3 st
  subst h1; subst h2; subst h3
  exact ⟨v, (T.setVm vm₁).calling g' mk (Value.ref b :: As).toArray, t, U', L, hT, X', hL, e1, e2, hq, st⟩
section
variable {y : MethodName} {bytes cc : ByteArray} {maxL nL mc ms n index : Nat} {ret : Option FieldType} {ws : List Cond} {rm : Room} {Pc : Array Value → State → Prop} {Qc : Array Value → State → Outcome → State → Prop} {XC : String → State → State → Prop} {free : Addr → Prop} {Ts : List Cond} {own C : String} {b : Addr} {As rest : List Value} {g : JFrame}
theorem vx_runVX {hh : List (Nat × Nat × Nat × Nat)} (S : CallFix p m c cc nL s args Ts own) (hM : vx_Met l y ws rm Pc Qc XC mc ms free) (cw : vx_CVW R s args own C index y bytes maxL ret hh ws rm mc ms n) (hp : PreV s H C b Pc As)
    (hg : g.method = m) (hn : As.length = n) (hsize : g.locals.size = nL) (hstack : g.stack = As.reverse ++ .ref b :: rest) (hW : 2 * g.monitorRoom + (rest.map fun v => v.category).sum ≤ 8) (hdg : decode cc g.pc = .ok (.invokevirtual index, 3)) (hf : cells + mc ≤ R.cells ∧ slots + ms ≤ R.slots) :
    vx_Run p l e R s m args below meth c H locs cells slots mc ms g rest (Qc (Value.ref b :: As).toArray) XC free := by
  obtain ⟨⟨hrc, hrs, hfr, hlo, hws, hcw⟩, hcode, hini, hy, hlen, hl, hin, hse⟩ := cw
  have hK : vx_Back l R p e below s args y 3 8 (PreOf R mc ms Pc) (PostOf Qc mc ms free) (vx_Post XC mc ms free) := vx_backW (hh := hh) (bytes := bytes) (maxL := maxL) (ret := ret) hM hp.1 hrc hrs hfr hlo hws hcw (fun a' U hW => word_at hW (Or.inl (by first | rfl | simp [Cond.onTables, Cond.keeps, Cond.steady])) hini)
  obtain ⟨hx, hb, hml, ho, -⟩ := S
  obtain ⟨-, ⟨cellB, hcB, hoB, hclB⟩, hPc⟩ := hp
  intro T hT X
  rcases vx_callVX X hx (C := C) (hh := hh) (bytes := bytes) (maxL := maxL) (ret := ret) ho hl hin hse hcode hy hK (by rw [hT]; exact hcB) hoB hclB hg (hsize.trans hml.symm) (argsL := As) (rest := rest) (fun sig h => hn.trans (hlen sig h)) hstack hW (by rw [hb]; exact hdg)
    (fun vm₁ hW₁ => ⟨hf.1, hf.2, hPc (T.setVm vm₁) hT hW₁⟩) with ⟨v, vm₁, ⟨U', l2, c2, s2⟩, hW₁, X', ⟨g', mk, t, L, e1, e2, hq, h1, hL, h2, h3⟩, st⟩ | ⟨q, vm₁, ⟨U', l2, c2, s2⟩, hW₁, X', ⟨g', mk, t, L, E, ce, e1, e2, hq, hce, hcv, hcl, h1, hL, h2, h3⟩, st⟩
  · dsimp only [Pt.U, Pt.locs, Pt.cells, Pt.slots] at X' e1 e2 h1 h2 h3 st
    subst h1; subst h2; subst h3
    exact Or.inl ⟨v, (T.setVm vm₁).calling g' mk (Value.ref b :: As).toArray, t, U', L, hT, X', hL, e1, e2, hq, st⟩
  · dsimp only [Pt.U, Pt.locs, Pt.cells, Pt.slots] at X' e1 e2 h1 h2 h3 st hcl
    subst h1; subst h2; subst h3
    exact Or.inr ⟨q, (T.setVm vm₁).calling g' mk (Value.ref b :: As).toArray, t, U', L, E, ce, hT, X', hL, e1, e2, hq, hce, hcv, vx_cls hW₁ hcl, st⟩
theorem vx_runSX {hh : List (Nat × Nat × Nat × Nat)} (S : CallFix p m c cc nL s args Ts own) (hM : vx_Met l y ws rm Pc Qc XC mc ms free) (cw : vx_CSW R s args own index y bytes maxL ret hh ws rm mc ms n) (hp : PreS s H Pc As)
    (hg : g.method = m) (hn : As.length = n) (hsize : g.locals.size = nL) (hstack : g.stack = As.reverse ++ rest) (hW : 2 * g.monitorRoom + (rest.map fun v => v.category).sum ≤ 8) (hdg : decode cc g.pc = .ok (.invokestatic index, 3)) (hf : cells + mc ≤ R.cells ∧ slots + ms ≤ R.slots) :
    vx_Run p l e R s m args below meth c H locs cells slots mc ms g rest (Qc As.toArray) XC free := by
  obtain ⟨⟨hrc, hrs, hfr, hlo, hws, hcw⟩, hcode, hini, hy, hlen, hl, hstt⟩ := cw
  have hK : vx_Back l R p e below s args y 3 8 (PreOf R mc ms Pc) (PostOf Qc mc ms free) (vx_Post XC mc ms free) := vx_backW (hh := hh) (bytes := bytes) (maxL := maxL) (ret := ret) hM hp.1 hrc hrs hfr hlo hws hcw (fun a' U hW => word_at hW (Or.inl (by first | rfl | simp [Cond.onTables, Cond.keeps, Cond.steady])) hini)
  obtain ⟨hx, hb, hml, ho, -⟩ := S
  intro T hT X
  rcases vx_callSX X hx (hh := hh) (bytes := bytes) (maxL := maxL) (ret := ret) ho hl hstt hini hcode hy hK hg (hsize.trans hml.symm) (argsL := As) (rest := rest) (fun sig h => hn.trans (hlen sig h)) hstack hW (by rw [hb]; exact hdg)
    (fun vm₁ hW₁ => ⟨hf.1, hf.2, hp.2 (T.setVm vm₁) hT hW₁⟩) with ⟨v, vm₁, ⟨U', l2, c2, s2⟩, hW₁, X', ⟨g', mk, t, L, e1, e2, hq, h1, hL, h2, h3⟩, st⟩ | ⟨q, vm₁, ⟨U', l2, c2, s2⟩, hW₁, X', ⟨g', mk, t, L, E, ce, e1, e2, hq, hce, hcv, hcl, h1, hL, h2, h3⟩, st⟩
  · dsimp only [Pt.U, Pt.locs, Pt.cells, Pt.slots] at X' e1 e2 h1 h2 h3 st
    subst h1; subst h2; subst h3
    exact Or.inl ⟨v, (T.setVm vm₁).calling g' mk As.toArray, t, U', L, hT, X', hL, e1, e2, hq, st⟩
  · dsimp only [Pt.U, Pt.locs, Pt.cells, Pt.slots] at X' e1 e2 h1 h2 h3 st hcl
    subst h1; subst h2; subst h3
    exact Or.inr ⟨q, (T.setVm vm₁).calling g' mk As.toArray, t, U', L, E, ce, hT, X', hL, e1, e2, hq, hce, hcv, vx_cls hW₁ hcl, st⟩
end
end VXH
theorem vx_ofWH {l : Launch} {y : MethodName} {ws ws' : List Cond} {rm : Room} {Pc : Array Value → State → Prop} {Qc : Array Value → State → Outcome → State → Prop} {XC : String → State → State → Prop} {mc ms : Nat} {free : Addr → Prop} {cc : ByteArray} {maxL : Nat} {ret : Option FieldType} {hh : List (Nat × Nat × Nat × Nat)}
    (hy : plainName y.cls = true) (hw : ws = Cond.codeWith y cc maxL ret hh :: ws')
    (body : ∀ p e s m args below meth c s₁, BodyLoose p l y (headSpec ws rm) cc maxL ret e s m args below meth c s₁ → c.maxLocals = maxL → Pc args s →
      W p l e (headSpec ws rm).room s m args below meth c s.heap [] 0 0 (vx_MQ below Qc XC args s mc ms free) (entryFrame m args maxL)) : vx_Met l y ws rm Pc Qc XC mc ms free := by
  refine MetFree.of_bodyS (code := cc) (maxLocals := maxL) (ret := ret) hy ?_ ?_
  · intro args s m h hn
    obtain ⟨m9, meth, c, hn9, h1, h2, h3, h4, -, h5, h6, -⟩ := Cond.codeWith_spec (atoms_spec (ws := ws) h _ (by rw [hw]; exact List.mem_cons_self))
    cases hn.symm.trans hn9
    exact ⟨meth, c, h1, h2, h3, h4, h5, h6⟩
  · intro p e s m args below meth c s₁ B hml hP _
    have hh0 : s₁.heap = s.heap := by rw [B.state]; rfl
    obtain ⟨t, a1, o, b1, b2, b3⟩ := body p e s m args below meth c s₁ B hml hP s₁ hh0 (Stand.of_body B)
    exact ⟨t, o, a1, b1, b2, b3⟩
/-! ===== END ===== -/
end
section
-- ===== PART A: goes FIRST, ahead of the names: the tables' words, and 'selects' of the private methods out of them =====
/-- a private method of a class that the tables say can be made, by its rows of tables_1 -/
def lw_okq (q : MethodName × Nat) : Prop := (q.1.cls ≠ "java/lang/invoke/MethodHandle" ∧ q.1.cls ≠ "java/lang/invoke/VarHandle") ∧ Cond.instantiable q.1.cls q.2 ∈ tables_1 ∧ Cond.privateMethod q.1 ∈ tables_1 ∧ Cond.instanceMethod q.1 ∈ tables_1
theorem lw_p0 : lw_okq (⟨"LeafCradles$BarText", "begin", "(I)V"⟩, 9) := ⟨⟨by decide +kernel, by decide +kernel⟩, List.mem_of_getElem? (i := 83) (by decide +kernel), List.mem_of_getElem? (i := 166) (by decide +kernel), List.mem_of_getElem? (i := 167) (by decide +kernel)⟩
theorem lw_p1 : lw_okq (⟨"LeafCradles$BarText", "accepts", "(I)Z"⟩, 9) := ⟨⟨by decide +kernel, by decide +kernel⟩, List.mem_of_getElem? (i := 83) (by decide +kernel), List.mem_of_getElem? (i := 174) (by decide +kernel), List.mem_of_getElem? (i := 175) (by decide +kernel)⟩
theorem lw_p2 : lw_okq (⟨"LeafCradles$BarText", "acceptsDash", "()Z"⟩, 9) := ⟨⟨by decide +kernel, by decide +kernel⟩, List.mem_of_getElem? (i := 83) (by decide +kernel), List.mem_of_getElem? (i := 178) (by decide +kernel), List.mem_of_getElem? (i := 179) (by decide +kernel)⟩
theorem lw_p3 : lw_okq (⟨"LeafCradles$BarText", "acceptsColon", "()Z"⟩, 9) := ⟨⟨by decide +kernel, by decide +kernel⟩, List.mem_of_getElem? (i := 83) (by decide +kernel), List.mem_of_getElem? (i := 182) (by decide +kernel), List.mem_of_getElem? (i := 183) (by decide +kernel)⟩
theorem lw_p4 : lw_okq (⟨"LeafCradles$BarText", "leastNumber", "()I"⟩, 9) := ⟨⟨by decide +kernel, by decide +kernel⟩, List.mem_of_getElem? (i := 83) (by decide +kernel), List.mem_of_getElem? (i := 186) (by decide +kernel), List.mem_of_getElem? (i := 187) (by decide +kernel)⟩
theorem lw_p5 : lw_okq (⟨"LeafCradles$BarText", "acceptsComma", "()Z"⟩, 9) := ⟨⟨by decide +kernel, by decide +kernel⟩, List.mem_of_getElem? (i := 83) (by decide +kernel), List.mem_of_getElem? (i := 190) (by decide +kernel), List.mem_of_getElem? (i := 191) (by decide +kernel)⟩
theorem lw_p6 : lw_okq (⟨"LeafCradles$BarText", "acceptsDigit", "(I)Z"⟩, 9) := ⟨⟨by decide +kernel, by decide +kernel⟩, List.mem_of_getElem? (i := 83) (by decide +kernel), List.mem_of_getElem? (i := 198) (by decide +kernel), List.mem_of_getElem? (i := 199) (by decide +kernel)⟩
theorem lw_p7 : lw_okq (⟨"LeafCradles$BarText", "greatestNumber", "()I"⟩, 9) := ⟨⟨by decide +kernel, by decide +kernel⟩, List.mem_of_getElem? (i := 83) (by decide +kernel), List.mem_of_getElem? (i := 202) (by decide +kernel), List.mem_of_getElem? (i := 203) (by decide +kernel)⟩
theorem lw_p8 : lw_okq (⟨"LeafCradles$BarText", "keepPart", "()V"⟩, 9) := ⟨⟨by decide +kernel, by decide +kernel⟩, List.mem_of_getElem? (i := 83) (by decide +kernel), List.mem_of_getElem? (i := 209) (by decide +kernel), List.mem_of_getElem? (i := 210) (by decide +kernel)⟩
theorem lw_p9 : lw_okq (⟨"LeafCradles$Archive", "copyForTrial", "(II)V"⟩, 8) := ⟨⟨by decide +kernel, by decide +kernel⟩, List.mem_of_getElem? (i := 25) (by decide +kernel), List.mem_of_getElem? (i := 234) (by decide +kernel), List.mem_of_getElem? (i := 235) (by decide +kernel)⟩
theorem lw_p10 : lw_okq (⟨"LeafCradles$Archive", "workFor", "(III)I"⟩, 8) := ⟨⟨by decide +kernel, by decide +kernel⟩, List.mem_of_getElem? (i := 25) (by decide +kernel), List.mem_of_getElem? (i := 245) (by decide +kernel), List.mem_of_getElem? (i := 246) (by decide +kernel)⟩
theorem lw_p11 : lw_okq (⟨"LeafCradles$Archive", "nextLeaf", "(I)I"⟩, 8) := ⟨⟨by decide +kernel, by decide +kernel⟩, List.mem_of_getElem? (i := 25) (by decide +kernel), List.mem_of_getElem? (i := 249) (by decide +kernel), List.mem_of_getElem? (i := 250) (by decide +kernel)⟩
theorem lw_p12 : lw_okq (⟨"LeafCradles$Archive", "scan", "(II)V"⟩, 8) := ⟨⟨by decide +kernel, by decide +kernel⟩, List.mem_of_getElem? (i := 25) (by decide +kernel), List.mem_of_getElem? (i := 262) (by decide +kernel), List.mem_of_getElem? (i := 263) (by decide +kernel)⟩
theorem lw_p13 : lw_okq (⟨"LeafCradles$Archive", "sumOverVolumes", "(I)I"⟩, 8) := ⟨⟨by decide +kernel, by decide +kernel⟩, List.mem_of_getElem? (i := 25) (by decide +kernel), List.mem_of_getElem? (i := 274) (by decide +kernel), List.mem_of_getElem? (i := 275) (by decide +kernel)⟩
theorem lw_p14 : lw_okq (⟨"LeafCradles$Archive", "leavesInCondition", "(II)I"⟩, 8) := ⟨⟨by decide +kernel, by decide +kernel⟩, List.mem_of_getElem? (i := 25) (by decide +kernel), List.mem_of_getElem? (i := 282) (by decide +kernel), List.mem_of_getElem? (i := 283) (by decide +kernel)⟩
theorem lw_p15 : lw_okq (⟨"LeafCradles$Archive", "openLeaves", "(I)I"⟩, 8) := ⟨⟨by decide +kernel, by decide +kernel⟩, List.mem_of_getElem? (i := 25) (by decide +kernel), List.mem_of_getElem? (i := 286) (by decide +kernel), List.mem_of_getElem? (i := 287) (by decide +kernel)⟩
def lw_privs_1 : List (MethodName × Nat) := [(⟨"LeafCradles$BarText", "begin", "(I)V"⟩, 9), (⟨"LeafCradles$BarText", "accepts", "(I)Z"⟩, 9), (⟨"LeafCradles$BarText", "acceptsDash", "()Z"⟩, 9), (⟨"LeafCradles$BarText", "acceptsColon", "()Z"⟩, 9), (⟨"LeafCradles$BarText", "leastNumber", "()I"⟩, 9), (⟨"LeafCradles$BarText", "acceptsComma", "()Z"⟩, 9), (⟨"LeafCradles$BarText", "acceptsDigit", "(I)Z"⟩, 9), (⟨"LeafCradles$BarText", "greatestNumber", "()I"⟩, 9), (⟨"LeafCradles$BarText", "keepPart", "()V"⟩, 9), (⟨"LeafCradles$Archive", "copyForTrial", "(II)V"⟩, 8), (⟨"LeafCradles$Archive", "workFor", "(III)I"⟩, 8), (⟨"LeafCradles$Archive", "nextLeaf", "(I)I"⟩, 8), (⟨"LeafCradles$Archive", "scan", "(II)V"⟩, 8), (⟨"LeafCradles$Archive", "sumOverVolumes", "(I)I"⟩, 8), (⟨"LeafCradles$Archive", "leavesInCondition", "(II)I"⟩, 8), (⟨"LeafCradles$Archive", "openLeaves", "(I)I"⟩, 8)]
theorem lw_r1 : ∀ q ∈ lw_privs_1, lw_okq q := List.forall_mem_cons.mpr ⟨lw_p0, List.forall_mem_cons.mpr ⟨lw_p1, List.forall_mem_cons.mpr ⟨lw_p2, List.forall_mem_cons.mpr ⟨lw_p3, List.forall_mem_cons.mpr ⟨lw_p4, List.forall_mem_cons.mpr ⟨lw_p5, List.forall_mem_cons.mpr ⟨lw_p6, List.forall_mem_cons.mpr ⟨lw_p7, List.forall_mem_cons.mpr ⟨lw_p8, List.forall_mem_cons.mpr ⟨lw_p9, List.forall_mem_cons.mpr ⟨lw_p10, List.forall_mem_cons.mpr ⟨lw_p11, List.forall_mem_cons.mpr ⟨lw_p12, List.forall_mem_cons.mpr ⟨lw_p13, List.forall_mem_cons.mpr ⟨lw_p14, List.forall_mem_cons.mpr ⟨lw_p15, fun _ h => absurd h List.not_mem_nil⟩⟩⟩⟩⟩⟩⟩⟩⟩⟩⟩⟩⟩⟩⟩⟩
theorem lw_p16 : lw_okq (⟨"LeafCradles$Archive", "isOpen", "(II)Z"⟩, 8) := ⟨⟨by decide +kernel, by decide +kernel⟩, List.mem_of_getElem? (i := 25) (by decide +kernel), List.mem_of_getElem? (i := 290) (by decide +kernel), List.mem_of_getElem? (i := 291) (by decide +kernel)⟩
theorem lw_p17 : lw_okq (⟨"LeafCradles$Archive", "scansOf", "(I)I"⟩, 8) := ⟨⟨by decide +kernel, by decide +kernel⟩, List.mem_of_getElem? (i := 25) (by decide +kernel), List.mem_of_getElem? (i := 294) (by decide +kernel), List.mem_of_getElem? (i := 295) (by decide +kernel)⟩
theorem lw_p18 : lw_okq (⟨"LeafCradles$Archive", "freeCradles", "()I"⟩, 8) := ⟨⟨by decide +kernel, by decide +kernel⟩, List.mem_of_getElem? (i := 25) (by decide +kernel), List.mem_of_getElem? (i := 307) (by decide +kernel), List.mem_of_getElem? (i := 308) (by decide +kernel)⟩
theorem lw_p19 : lw_okq (⟨"LeafCradles", "mixVolumes", "(J)J"⟩, 3) := ⟨⟨by decide +kernel, by decide +kernel⟩, List.mem_of_getElem? (i := 17) (by decide +kernel), List.mem_of_getElem? (i := 316) (by decide +kernel), List.mem_of_getElem? (i := 317) (by decide +kernel)⟩
theorem lw_p20 : lw_okq (⟨"LeafCradles$Archive", "minutesOfWay", "(II)I"⟩, 8) := ⟨⟨by decide +kernel, by decide +kernel⟩, List.mem_of_getElem? (i := 25) (by decide +kernel), List.mem_of_getElem? (i := 333) (by decide +kernel), List.mem_of_getElem? (i := 334) (by decide +kernel)⟩
theorem lw_p21 : lw_okq (⟨"LeafCradles", "mixCradles", "(J)J"⟩, 3) := ⟨⟨by decide +kernel, by decide +kernel⟩, List.mem_of_getElem? (i := 17) (by decide +kernel), List.mem_of_getElem? (i := 340) (by decide +kernel), List.mem_of_getElem? (i := 341) (by decide +kernel)⟩
theorem lw_p22 : lw_okq (⟨"LeafCradles$Archive", "reasonOfRest", "(I)I"⟩, 8) := ⟨⟨by decide +kernel, by decide +kernel⟩, List.mem_of_getElem? (i := 25) (by decide +kernel), List.mem_of_getElem? (i := 348) (by decide +kernel), List.mem_of_getElem? (i := 349) (by decide +kernel)⟩
theorem lw_p23 : lw_okq (⟨"LeafCradles", "mixCarriers", "(J)J"⟩, 3) := ⟨⟨by decide +kernel, by decide +kernel⟩, List.mem_of_getElem? (i := 17) (by decide +kernel), List.mem_of_getElem? (i := 360) (by decide +kernel), List.mem_of_getElem? (i := 361) (by decide +kernel)⟩
theorem lw_p24 : lw_okq (⟨"LeafCradles", "mixEntries", "(J)J"⟩, 3) := ⟨⟨by decide +kernel, by decide +kernel⟩, List.mem_of_getElem? (i := 17) (by decide +kernel), List.mem_of_getElem? (i := 368) (by decide +kernel), List.mem_of_getElem? (i := 369) (by decide +kernel)⟩
theorem lw_p25 : lw_okq (⟨"LeafCradles$LoadPlan", "note", "(I)V"⟩, 4) := ⟨⟨by decide +kernel, by decide +kernel⟩, List.mem_of_getElem? (i := 119) (by decide +kernel), List.mem_of_getElem? (i := 401) (by decide +kernel), List.mem_of_getElem? (i := 402) (by decide +kernel)⟩
theorem lw_p26 : lw_okq (⟨"LeafCradles", "mixText", "(J)J"⟩, 3) := ⟨⟨by decide +kernel, by decide +kernel⟩, List.mem_of_getElem? (i := 17) (by decide +kernel), List.mem_of_getElem? (i := 416) (by decide +kernel), List.mem_of_getElem? (i := 417) (by decide +kernel)⟩
theorem lw_p27 : lw_okq (⟨"java/lang/Throwable", "fillInStackTrace", "(I)Ljava/lang/Throwable;"⟩, 6) := ⟨⟨by decide +kernel, by decide +kernel⟩, List.mem_of_getElem? (i := 475) (by decide +kernel), List.mem_of_getElem? (i := 473) (by decide +kernel), List.mem_of_getElem? (i := 474) (by decide +kernel)⟩
theorem lw_p28 : lw_okq (⟨"LeafCradles$Table", "hasCopy", "(I)Z"⟩, 4) := ⟨⟨by decide +kernel, by decide +kernel⟩, List.mem_of_getElem? (i := 31) (by decide +kernel), List.mem_of_getElem? (i := 529) (by decide +kernel), List.mem_of_getElem? (i := 530) (by decide +kernel)⟩
theorem lw_p29 : lw_okq (⟨"LeafCradles", "requireVolume", "(I)V"⟩, 3) := ⟨⟨by decide +kernel, by decide +kernel⟩, List.mem_of_getElem? (i := 17) (by decide +kernel), List.mem_of_getElem? (i := 616) (by decide +kernel), List.mem_of_getElem? (i := 617) (by decide +kernel)⟩
theorem lw_p30 : lw_okq (⟨"LeafCradles", "requireCradle", "(I)V"⟩, 3) := ⟨⟨by decide +kernel, by decide +kernel⟩, List.mem_of_getElem? (i := 17) (by decide +kernel), List.mem_of_getElem? (i := 620) (by decide +kernel), List.mem_of_getElem? (i := 621) (by decide +kernel)⟩
theorem lw_p31 : lw_okq (⟨"LeafCradles", "requireCarrier", "(I)V"⟩, 3) := ⟨⟨by decide +kernel, by decide +kernel⟩, List.mem_of_getElem? (i := 17) (by decide +kernel), List.mem_of_getElem? (i := 624) (by decide +kernel), List.mem_of_getElem? (i := 625) (by decide +kernel)⟩
def lw_privs_2 : List (MethodName × Nat) := [(⟨"LeafCradles$Archive", "isOpen", "(II)Z"⟩, 8), (⟨"LeafCradles$Archive", "scansOf", "(I)I"⟩, 8), (⟨"LeafCradles$Archive", "freeCradles", "()I"⟩, 8), (⟨"LeafCradles", "mixVolumes", "(J)J"⟩, 3), (⟨"LeafCradles$Archive", "minutesOfWay", "(II)I"⟩, 8), (⟨"LeafCradles", "mixCradles", "(J)J"⟩, 3), (⟨"LeafCradles$Archive", "reasonOfRest", "(I)I"⟩, 8), (⟨"LeafCradles", "mixCarriers", "(J)J"⟩, 3), (⟨"LeafCradles", "mixEntries", "(J)J"⟩, 3), (⟨"LeafCradles$LoadPlan", "note", "(I)V"⟩, 4), (⟨"LeafCradles", "mixText", "(J)J"⟩, 3), (⟨"java/lang/Throwable", "fillInStackTrace", "(I)Ljava/lang/Throwable;"⟩, 6), (⟨"LeafCradles$Table", "hasCopy", "(I)Z"⟩, 4), (⟨"LeafCradles", "requireVolume", "(I)V"⟩, 3), (⟨"LeafCradles", "requireCradle", "(I)V"⟩, 3), (⟨"LeafCradles", "requireCarrier", "(I)V"⟩, 3)]
theorem lw_r2 : ∀ q ∈ lw_privs_2, lw_okq q := List.forall_mem_cons.mpr ⟨lw_p16, List.forall_mem_cons.mpr ⟨lw_p17, List.forall_mem_cons.mpr ⟨lw_p18, List.forall_mem_cons.mpr ⟨lw_p19, List.forall_mem_cons.mpr ⟨lw_p20, List.forall_mem_cons.mpr ⟨lw_p21, List.forall_mem_cons.mpr ⟨lw_p22, List.forall_mem_cons.mpr ⟨lw_p23, List.forall_mem_cons.mpr ⟨lw_p24, List.forall_mem_cons.mpr ⟨lw_p25, List.forall_mem_cons.mpr ⟨lw_p26, List.forall_mem_cons.mpr ⟨lw_p27, List.forall_mem_cons.mpr ⟨lw_p28, List.forall_mem_cons.mpr ⟨lw_p29, List.forall_mem_cons.mpr ⟨lw_p30, List.forall_mem_cons.mpr ⟨lw_p31, fun _ h => absurd h List.not_mem_nil⟩⟩⟩⟩⟩⟩⟩⟩⟩⟩⟩⟩⟩⟩⟩⟩
theorem lw_p32 : lw_okq (⟨"LeafCradles$Archive", "startWay", "(III)I"⟩, 8) := ⟨⟨by decide +kernel, by decide +kernel⟩, List.mem_of_getElem? (i := 25) (by decide +kernel), List.mem_of_getElem? (i := 638) (by decide +kernel), List.mem_of_getElem? (i := 639) (by decide +kernel)⟩
theorem lw_p33 : lw_okq (⟨"LeafCradlesModel", "fails", "(I)I"⟩, 17) := ⟨⟨by decide +kernel, by decide +kernel⟩, List.mem_of_getElem? (i := 835) (by decide +kernel), List.mem_of_getElem? (i := 904) (by decide +kernel), List.mem_of_getElem? (i := 905) (by decide +kernel)⟩
theorem lw_p34 : lw_okq (⟨"LeafCradlesModel", "save", "()V"⟩, 17) := ⟨⟨by decide +kernel, by decide +kernel⟩, List.mem_of_getElem? (i := 835) (by decide +kernel), List.mem_of_getElem? (i := 908) (by decide +kernel), List.mem_of_getElem? (i := 909) (by decide +kernel)⟩
theorem lw_p35 : lw_okq (⟨"LeafCradlesModel", "isVolume", "(I)Z"⟩, 17) := ⟨⟨by decide +kernel, by decide +kernel⟩, List.mem_of_getElem? (i := 835) (by decide +kernel), List.mem_of_getElem? (i := 932) (by decide +kernel), List.mem_of_getElem? (i := 933) (by decide +kernel)⟩
theorem lw_p36 : lw_okq (⟨"LeafCradlesModel", "isCradle", "(I)Z"⟩, 17) := ⟨⟨by decide +kernel, by decide +kernel⟩, List.mem_of_getElem? (i := 835) (by decide +kernel), List.mem_of_getElem? (i := 936) (by decide +kernel), List.mem_of_getElem? (i := 937) (by decide +kernel)⟩
theorem lw_p37 : lw_okq (⟨"LeafCradlesModel", "isCarrier", "(I)Z"⟩, 17) := ⟨⟨by decide +kernel, by decide +kernel⟩, List.mem_of_getElem? (i := 835) (by decide +kernel), List.mem_of_getElem? (i := 940) (by decide +kernel), List.mem_of_getElem? (i := 941) (by decide +kernel)⟩
theorem lw_p38 : lw_okq (⟨"LeafCradlesModel", "reason", "(III)I"⟩, 17) := ⟨⟨by decide +kernel, by decide +kernel⟩, List.mem_of_getElem? (i := 835) (by decide +kernel), List.mem_of_getElem? (i := 944) (by decide +kernel), List.mem_of_getElem? (i := 945) (by decide +kernel)⟩
theorem lw_p39 : lw_okq (⟨"LeafCradlesModel", "ofVolume", "(II)I"⟩, 17) := ⟨⟨by decide +kernel, by decide +kernel⟩, List.mem_of_getElem? (i := 835) (by decide +kernel), List.mem_of_getElem? (i := 948) (by decide +kernel), List.mem_of_getElem? (i := 949) (by decide +kernel)⟩
theorem lw_p40 : lw_okq (⟨"LeafCradlesModel", "volumeOn", "(I)I"⟩, 17) := ⟨⟨by decide +kernel, by decide +kernel⟩, List.mem_of_getElem? (i := 835) (by decide +kernel), List.mem_of_getElem? (i := 952) (by decide +kernel), List.mem_of_getElem? (i := 953) (by decide +kernel)⟩
theorem lw_p41 : lw_okq (⟨"LeafCradlesModel", "ofCradle", "(II)I"⟩, 17) := ⟨⟨by decide +kernel, by decide +kernel⟩, List.mem_of_getElem? (i := 835) (by decide +kernel), List.mem_of_getElem? (i := 956) (by decide +kernel), List.mem_of_getElem? (i := 957) (by decide +kernel)⟩
theorem lw_p42 : lw_okq (⟨"LeafCradlesModel", "nextLeaf", "(I)I"⟩, 17) := ⟨⟨by decide +kernel, by decide +kernel⟩, List.mem_of_getElem? (i := 835) (by decide +kernel), List.mem_of_getElem? (i := 960) (by decide +kernel), List.mem_of_getElem? (i := 961) (by decide +kernel)⟩
theorem lw_p43 : lw_okq (⟨"LeafCradlesModel", "ofLeaf", "(III)I"⟩, 17) := ⟨⟨by decide +kernel, by decide +kernel⟩, List.mem_of_getElem? (i := 835) (by decide +kernel), List.mem_of_getElem? (i := 964) (by decide +kernel), List.mem_of_getElem? (i := 965) (by decide +kernel)⟩
theorem lw_p44 : lw_okq (⟨"LeafCradlesModel", "ofCarrier", "(II)I"⟩, 17) := ⟨⟨by decide +kernel, by decide +kernel⟩, List.mem_of_getElem? (i := 835) (by decide +kernel), List.mem_of_getElem? (i := 968) (by decide +kernel), List.mem_of_getElem? (i := 969) (by decide +kernel)⟩
theorem lw_p45 : lw_okq (⟨"LeafCradlesModel", "isLogFull", "()Z"⟩, 17) := ⟨⟨by decide +kernel, by decide +kernel⟩, List.mem_of_getElem? (i := 835) (by decide +kernel), List.mem_of_getElem? (i := 972) (by decide +kernel), List.mem_of_getElem? (i := 973) (by decide +kernel)⟩
theorem lw_p46 : lw_okq (⟨"LeafCradlesModel", "goes", "(III)I"⟩, 17) := ⟨⟨by decide +kernel, by decide +kernel⟩, List.mem_of_getElem? (i := 835) (by decide +kernel), List.mem_of_getElem? (i := 976) (by decide +kernel), List.mem_of_getElem? (i := 977) (by decide +kernel)⟩
theorem lw_p47 : lw_okq (⟨"LeafCradlesModel", "way", "(II)I"⟩, 17) := ⟨⟨by decide +kernel, by decide +kernel⟩, List.mem_of_getElem? (i := 835) (by decide +kernel), List.mem_of_getElem? (i := 980) (by decide +kernel), List.mem_of_getElem? (i := 981) (by decide +kernel)⟩
def lw_privs_3 : List (MethodName × Nat) := [(⟨"LeafCradles$Archive", "startWay", "(III)I"⟩, 8), (⟨"LeafCradlesModel", "fails", "(I)I"⟩, 17), (⟨"LeafCradlesModel", "save", "()V"⟩, 17), (⟨"LeafCradlesModel", "isVolume", "(I)Z"⟩, 17), (⟨"LeafCradlesModel", "isCradle", "(I)Z"⟩, 17), (⟨"LeafCradlesModel", "isCarrier", "(I)Z"⟩, 17), (⟨"LeafCradlesModel", "reason", "(III)I"⟩, 17), (⟨"LeafCradlesModel", "ofVolume", "(II)I"⟩, 17), (⟨"LeafCradlesModel", "volumeOn", "(I)I"⟩, 17), (⟨"LeafCradlesModel", "ofCradle", "(II)I"⟩, 17), (⟨"LeafCradlesModel", "nextLeaf", "(I)I"⟩, 17), (⟨"LeafCradlesModel", "ofLeaf", "(III)I"⟩, 17), (⟨"LeafCradlesModel", "ofCarrier", "(II)I"⟩, 17), (⟨"LeafCradlesModel", "isLogFull", "()Z"⟩, 17), (⟨"LeafCradlesModel", "goes", "(III)I"⟩, 17), (⟨"LeafCradlesModel", "way", "(II)I"⟩, 17)]
theorem lw_r3 : ∀ q ∈ lw_privs_3, lw_okq q := List.forall_mem_cons.mpr ⟨lw_p32, List.forall_mem_cons.mpr ⟨lw_p33, List.forall_mem_cons.mpr ⟨lw_p34, List.forall_mem_cons.mpr ⟨lw_p35, List.forall_mem_cons.mpr ⟨lw_p36, List.forall_mem_cons.mpr ⟨lw_p37, List.forall_mem_cons.mpr ⟨lw_p38, List.forall_mem_cons.mpr ⟨lw_p39, List.forall_mem_cons.mpr ⟨lw_p40, List.forall_mem_cons.mpr ⟨lw_p41, List.forall_mem_cons.mpr ⟨lw_p42, List.forall_mem_cons.mpr ⟨lw_p43, List.forall_mem_cons.mpr ⟨lw_p44, List.forall_mem_cons.mpr ⟨lw_p45, List.forall_mem_cons.mpr ⟨lw_p46, List.forall_mem_cons.mpr ⟨lw_p47, fun _ h => absurd h List.not_mem_nil⟩⟩⟩⟩⟩⟩⟩⟩⟩⟩⟩⟩⟩⟩⟩⟩
theorem lw_p48 : lw_okq (⟨"LeafCradlesModel", "minute", "()I"⟩, 17) := ⟨⟨by decide +kernel, by decide +kernel⟩, List.mem_of_getElem? (i := 835) (by decide +kernel), List.mem_of_getElem? (i := 992) (by decide +kernel), List.mem_of_getElem? (i := 993) (by decide +kernel)⟩
theorem lw_p49 : lw_okq (⟨"LeafCradlesModel", "idle", "(I)I"⟩, 17) := ⟨⟨by decide +kernel, by decide +kernel⟩, List.mem_of_getElem? (i := 835) (by decide +kernel), List.mem_of_getElem? (i := 996) (by decide +kernel), List.mem_of_getElem? (i := 997) (by decide +kernel)⟩
theorem lw_p50 : lw_okq (⟨"LeafCradlesModel", "scans", "(I)I"⟩, 17) := ⟨⟨by decide +kernel, by decide +kernel⟩, List.mem_of_getElem? (i := 835) (by decide +kernel), List.mem_of_getElem? (i := 1000) (by decide +kernel), List.mem_of_getElem? (i := 1001) (by decide +kernel)⟩
theorem lw_p51 : lw_okq (⟨"LeafCradlesModel", "isLeaf", "(II)Z"⟩, 17) := ⟨⟨by decide +kernel, by decide +kernel⟩, List.mem_of_getElem? (i := 835) (by decide +kernel), List.mem_of_getElem? (i := 1008) (by decide +kernel), List.mem_of_getElem? (i := 1009) (by decide +kernel)⟩
theorem lw_p52 : lw_okq (⟨"LeafCradlesModel", "leavesWith", "(II)I"⟩, 17) := ⟨⟨by decide +kernel, by decide +kernel⟩, List.mem_of_getElem? (i := 835) (by decide +kernel), List.mem_of_getElem? (i := 1012) (by decide +kernel), List.mem_of_getElem? (i := 1013) (by decide +kernel)⟩
theorem lw_p53 : lw_okq (⟨"LeafCradlesModel", "read", "()I"⟩, 17) := ⟨⟨by decide +kernel, by decide +kernel⟩, List.mem_of_getElem? (i := 835) (by decide +kernel), List.mem_of_getElem? (i := 1028) (by decide +kernel), List.mem_of_getElem? (i := 1029) (by decide +kernel)⟩
theorem lw_p54 : lw_okq (⟨"LeafCradlesModel", "takes", "(I)Z"⟩, 17) := ⟨⟨by decide +kernel, by decide +kernel⟩, List.mem_of_getElem? (i := 835) (by decide +kernel), List.mem_of_getElem? (i := 1032) (by decide +kernel), List.mem_of_getElem? (i := 1033) (by decide +kernel)⟩
theorem lw_p55 : lw_okq (⟨"LeafCradlesModel", "takesFirst", "(I)Z"⟩, 17) := ⟨⟨by decide +kernel, by decide +kernel⟩, List.mem_of_getElem? (i := 835) (by decide +kernel), List.mem_of_getElem? (i := 1036) (by decide +kernel), List.mem_of_getElem? (i := 1037) (by decide +kernel)⟩
theorem lw_p56 : lw_okq (⟨"LeafCradlesModel", "goesOn", "(ZI)Z"⟩, 17) := ⟨⟨by decide +kernel, by decide +kernel⟩, List.mem_of_getElem? (i := 835) (by decide +kernel), List.mem_of_getElem? (i := 1040) (by decide +kernel), List.mem_of_getElem? (i := 1041) (by decide +kernel)⟩
theorem lw_p57 : lw_okq (⟨"LeafCradlesModel", "takesSecond", "(I)Z"⟩, 17) := ⟨⟨by decide +kernel, by decide +kernel⟩, List.mem_of_getElem? (i := 835) (by decide +kernel), List.mem_of_getElem? (i := 1044) (by decide +kernel), List.mem_of_getElem? (i := 1045) (by decide +kernel)⟩
theorem lw_p58 : lw_okq (⟨"LeafCradlesModel", "takesYear", "(I)Z"⟩, 17) := ⟨⟨by decide +kernel, by decide +kernel⟩, List.mem_of_getElem? (i := 835) (by decide +kernel), List.mem_of_getElem? (i := 1048) (by decide +kernel), List.mem_of_getElem? (i := 1049) (by decide +kernel)⟩
theorem lw_p59 : lw_okq (⟨"LeafCradlesModel", "lastOf", "(I)I"⟩, 17) := ⟨⟨by decide +kernel, by decide +kernel⟩, List.mem_of_getElem? (i := 835) (by decide +kernel), List.mem_of_getElem? (i := 1056) (by decide +kernel), List.mem_of_getElem? (i := 1057) (by decide +kernel)⟩
theorem lw_p60 : lw_okq (⟨"LeafCradlesModel", "barred", "(I)I"⟩, 17) := ⟨⟨by decide +kernel, by decide +kernel⟩, List.mem_of_getElem? (i := 835) (by decide +kernel), List.mem_of_getElem? (i := 1060) (by decide +kernel), List.mem_of_getElem? (i := 1061) (by decide +kernel)⟩
theorem lw_p61 : lw_okq (⟨"LeafCradlesModel", "volumeNow", "(II)I"⟩, 17) := ⟨⟨by decide +kernel, by decide +kernel⟩, List.mem_of_getElem? (i := 835) (by decide +kernel), List.mem_of_getElem? (i := 1072) (by decide +kernel), List.mem_of_getElem? (i := 1073) (by decide +kernel)⟩
theorem lw_p62 : lw_okq (⟨"LeafCradlesModel", "open", "(I)I"⟩, 17) := ⟨⟨by decide +kernel, by decide +kernel⟩, List.mem_of_getElem? (i := 835) (by decide +kernel), List.mem_of_getElem? (i := 1076) (by decide +kernel), List.mem_of_getElem? (i := 1077) (by decide +kernel)⟩
theorem lw_p63 : lw_okq (⟨"LeafCradlesModel", "isOpen", "(II)Z"⟩, 17) := ⟨⟨by decide +kernel, by decide +kernel⟩, List.mem_of_getElem? (i := 835) (by decide +kernel), List.mem_of_getElem? (i := 1080) (by decide +kernel), List.mem_of_getElem? (i := 1081) (by decide +kernel)⟩
def lw_privs_4 : List (MethodName × Nat) := [(⟨"LeafCradlesModel", "minute", "()I"⟩, 17), (⟨"LeafCradlesModel", "idle", "(I)I"⟩, 17), (⟨"LeafCradlesModel", "scans", "(I)I"⟩, 17), (⟨"LeafCradlesModel", "isLeaf", "(II)Z"⟩, 17), (⟨"LeafCradlesModel", "leavesWith", "(II)I"⟩, 17), (⟨"LeafCradlesModel", "read", "()I"⟩, 17), (⟨"LeafCradlesModel", "takes", "(I)Z"⟩, 17), (⟨"LeafCradlesModel", "takesFirst", "(I)Z"⟩, 17), (⟨"LeafCradlesModel", "goesOn", "(ZI)Z"⟩, 17), (⟨"LeafCradlesModel", "takesSecond", "(I)Z"⟩, 17), (⟨"LeafCradlesModel", "takesYear", "(I)Z"⟩, 17), (⟨"LeafCradlesModel", "lastOf", "(I)I"⟩, 17), (⟨"LeafCradlesModel", "barred", "(I)I"⟩, 17), (⟨"LeafCradlesModel", "volumeNow", "(II)I"⟩, 17), (⟨"LeafCradlesModel", "open", "(I)I"⟩, 17), (⟨"LeafCradlesModel", "isOpen", "(II)Z"⟩, 17)]
theorem lw_r4 : ∀ q ∈ lw_privs_4, lw_okq q := List.forall_mem_cons.mpr ⟨lw_p48, List.forall_mem_cons.mpr ⟨lw_p49, List.forall_mem_cons.mpr ⟨lw_p50, List.forall_mem_cons.mpr ⟨lw_p51, List.forall_mem_cons.mpr ⟨lw_p52, List.forall_mem_cons.mpr ⟨lw_p53, List.forall_mem_cons.mpr ⟨lw_p54, List.forall_mem_cons.mpr ⟨lw_p55, List.forall_mem_cons.mpr ⟨lw_p56, List.forall_mem_cons.mpr ⟨lw_p57, List.forall_mem_cons.mpr ⟨lw_p58, List.forall_mem_cons.mpr ⟨lw_p59, List.forall_mem_cons.mpr ⟨lw_p60, List.forall_mem_cons.mpr ⟨lw_p61, List.forall_mem_cons.mpr ⟨lw_p62, List.forall_mem_cons.mpr ⟨lw_p63, fun _ h => absurd h List.not_mem_nil⟩⟩⟩⟩⟩⟩⟩⟩⟩⟩⟩⟩⟩⟩⟩⟩
theorem lw_p64 : lw_okq (⟨"LeafCradlesModel", "scanned", "(I)I"⟩, 17) := ⟨⟨by decide +kernel, by decide +kernel⟩, List.mem_of_getElem? (i := 835) (by decide +kernel), List.mem_of_getElem? (i := 1084) (by decide +kernel), List.mem_of_getElem? (i := 1085) (by decide +kernel)⟩
theorem lw_p65 : lw_okq (⟨"LeafCradlesModel", "leafNow", "(III)I"⟩, 17) := ⟨⟨by decide +kernel, by decide +kernel⟩, List.mem_of_getElem? (i := 835) (by decide +kernel), List.mem_of_getElem? (i := 1092) (by decide +kernel), List.mem_of_getElem? (i := 1093) (by decide +kernel)⟩
theorem lw_p66 : lw_okq (⟨"LeafCradlesModel", "cradleNow", "(II)I"⟩, 17) := ⟨⟨by decide +kernel, by decide +kernel⟩, List.mem_of_getElem? (i := 835) (by decide +kernel), List.mem_of_getElem? (i := 1100) (by decide +kernel), List.mem_of_getElem? (i := 1101) (by decide +kernel)⟩
theorem lw_p67 : lw_okq (⟨"LeafCradlesModel", "whereNow", "(II)I"⟩, 17) := ⟨⟨by decide +kernel, by decide +kernel⟩, List.mem_of_getElem? (i := 835) (by decide +kernel), List.mem_of_getElem? (i := 1116) (by decide +kernel), List.mem_of_getElem? (i := 1117) (by decide +kernel)⟩
theorem lw_p68 : lw_okq (⟨"LeafCradlesModel", "counted", "(I)I"⟩, 17) := ⟨⟨by decide +kernel, by decide +kernel⟩, List.mem_of_getElem? (i := 835) (by decide +kernel), List.mem_of_getElem? (i := 1124) (by decide +kernel), List.mem_of_getElem? (i := 1125) (by decide +kernel)⟩
theorem lw_p69 : lw_okq (⟨"LeafCradlesModel", "overAll", "(I)I"⟩, 17) := ⟨⟨by decide +kernel, by decide +kernel⟩, List.mem_of_getElem? (i := 835) (by decide +kernel), List.mem_of_getElem? (i := 1128) (by decide +kernel), List.mem_of_getElem? (i := 1129) (by decide +kernel)⟩
theorem lw_p70 : lw_okq (⟨"LeafCradlesModel", "free", "()I"⟩, 17) := ⟨⟨by decide +kernel, by decide +kernel⟩, List.mem_of_getElem? (i := 835) (by decide +kernel), List.mem_of_getElem? (i := 1132) (by decide +kernel), List.mem_of_getElem? (i := 1133) (by decide +kernel)⟩
theorem lw_p71 : lw_okq (⟨"LeafCradlesModel", "passedNow", "(II)I"⟩, 17) := ⟨⟨by decide +kernel, by decide +kernel⟩, List.mem_of_getElem? (i := 835) (by decide +kernel), List.mem_of_getElem? (i := 1148) (by decide +kernel), List.mem_of_getElem? (i := 1149) (by decide +kernel)⟩
theorem lw_p72 : lw_okq (⟨"LeafCradlesModel", "doneBy", "(I)I"⟩, 17) := ⟨⟨by decide +kernel, by decide +kernel⟩, List.mem_of_getElem? (i := 835) (by decide +kernel), List.mem_of_getElem? (i := 1152) (by decide +kernel), List.mem_of_getElem? (i := 1153) (by decide +kernel)⟩
theorem lw_p73 : lw_okq (⟨"LeafCradlesModel", "keep", "()V"⟩, 17) := ⟨⟨by decide +kernel, by decide +kernel⟩, List.mem_of_getElem? (i := 835) (by decide +kernel), List.mem_of_getElem? (i := 1156) (by decide +kernel), List.mem_of_getElem? (i := 1157) (by decide +kernel)⟩
theorem lw_p74 : lw_okq (⟨"LeafCradlesModel", "bring0", "()V"⟩, 17) := ⟨⟨by decide +kernel, by decide +kernel⟩, List.mem_of_getElem? (i := 835) (by decide +kernel), List.mem_of_getElem? (i := 1160) (by decide +kernel), List.mem_of_getElem? (i := 1161) (by decide +kernel)⟩
theorem lw_p75 : lw_okq (⟨"LeafCradlesModel", "doneNow", "()I"⟩, 17) := ⟨⟨by decide +kernel, by decide +kernel⟩, List.mem_of_getElem? (i := 835) (by decide +kernel), List.mem_of_getElem? (i := 1168) (by decide +kernel), List.mem_of_getElem? (i := 1169) (by decide +kernel)⟩
theorem lw_p76 : lw_okq (⟨"LeafCradlesModel", "isAny", "()Z"⟩, 17) := ⟨⟨by decide +kernel, by decide +kernel⟩, List.mem_of_getElem? (i := 835) (by decide +kernel), List.mem_of_getElem? (i := 1172) (by decide +kernel), List.mem_of_getElem? (i := 1173) (by decide +kernel)⟩
theorem lw_p77 : lw_okq (⟨"LeafCradlesModel", "quickestNow", "(I)I"⟩, 17) := ⟨⟨by decide +kernel, by decide +kernel⟩, List.mem_of_getElem? (i := 835) (by decide +kernel), List.mem_of_getElem? (i := 1180) (by decide +kernel), List.mem_of_getElem? (i := 1181) (by decide +kernel)⟩
theorem lw_p78 : lw_okq (⟨"LeafCradlesModel", "layBest", "(I)V"⟩, 17) := ⟨⟨by decide +kernel, by decide +kernel⟩, List.mem_of_getElem? (i := 835) (by decide +kernel), List.mem_of_getElem? (i := 1188) (by decide +kernel), List.mem_of_getElem? (i := 1189) (by decide +kernel)⟩
theorem lw_p79 : lw_okq (⟨"LeafCradlesModel", "layGains", "(I)V"⟩, 17) := ⟨⟨by decide +kernel, by decide +kernel⟩, List.mem_of_getElem? (i := 835) (by decide +kernel), List.mem_of_getElem? (i := 1192) (by decide +kernel), List.mem_of_getElem? (i := 1193) (by decide +kernel)⟩
def lw_privs_5 : List (MethodName × Nat) := [(⟨"LeafCradlesModel", "scanned", "(I)I"⟩, 17), (⟨"LeafCradlesModel", "leafNow", "(III)I"⟩, 17), (⟨"LeafCradlesModel", "cradleNow", "(II)I"⟩, 17), (⟨"LeafCradlesModel", "whereNow", "(II)I"⟩, 17), (⟨"LeafCradlesModel", "counted", "(I)I"⟩, 17), (⟨"LeafCradlesModel", "overAll", "(I)I"⟩, 17), (⟨"LeafCradlesModel", "free", "()I"⟩, 17), (⟨"LeafCradlesModel", "passedNow", "(II)I"⟩, 17), (⟨"LeafCradlesModel", "doneBy", "(I)I"⟩, 17), (⟨"LeafCradlesModel", "keep", "()V"⟩, 17), (⟨"LeafCradlesModel", "bring0", "()V"⟩, 17), (⟨"LeafCradlesModel", "doneNow", "()I"⟩, 17), (⟨"LeafCradlesModel", "isAny", "()Z"⟩, 17), (⟨"LeafCradlesModel", "quickestNow", "(I)I"⟩, 17), (⟨"LeafCradlesModel", "layBest", "(I)V"⟩, 17), (⟨"LeafCradlesModel", "layGains", "(I)V"⟩, 17)]
theorem lw_r5 : ∀ q ∈ lw_privs_5, lw_okq q := List.forall_mem_cons.mpr ⟨lw_p64, List.forall_mem_cons.mpr ⟨lw_p65, List.forall_mem_cons.mpr ⟨lw_p66, List.forall_mem_cons.mpr ⟨lw_p67, List.forall_mem_cons.mpr ⟨lw_p68, List.forall_mem_cons.mpr ⟨lw_p69, List.forall_mem_cons.mpr ⟨lw_p70, List.forall_mem_cons.mpr ⟨lw_p71, List.forall_mem_cons.mpr ⟨lw_p72, List.forall_mem_cons.mpr ⟨lw_p73, List.forall_mem_cons.mpr ⟨lw_p74, List.forall_mem_cons.mpr ⟨lw_p75, List.forall_mem_cons.mpr ⟨lw_p76, List.forall_mem_cons.mpr ⟨lw_p77, List.forall_mem_cons.mpr ⟨lw_p78, List.forall_mem_cons.mpr ⟨lw_p79, fun _ h => absurd h List.not_mem_nil⟩⟩⟩⟩⟩⟩⟩⟩⟩⟩⟩⟩⟩⟩⟩⟩
theorem lw_p80 : lw_okq (⟨"LeafCradlesModel", "mayHave", "(II)Z"⟩, 17) := ⟨⟨by decide +kernel, by decide +kernel⟩, List.mem_of_getElem? (i := 835) (by decide +kernel), List.mem_of_getElem? (i := 1196) (by decide +kernel), List.mem_of_getElem? (i := 1197) (by decide +kernel)⟩
theorem lw_p81 : lw_okq (⟨"LeafCradlesModel", "scansOf", "(III)I"⟩, 17) := ⟨⟨by decide +kernel, by decide +kernel⟩, List.mem_of_getElem? (i := 835) (by decide +kernel), List.mem_of_getElem? (i := 1200) (by decide +kernel), List.mem_of_getElem? (i := 1201) (by decide +kernel)⟩
theorem lw_p82 : lw_okq (⟨"LeafCradlesModel", "toScan", "(I)I"⟩, 17) := ⟨⟨by decide +kernel, by decide +kernel⟩, List.mem_of_getElem? (i := 835) (by decide +kernel), List.mem_of_getElem? (i := 1204) (by decide +kernel), List.mem_of_getElem? (i := 1205) (by decide +kernel)⟩
theorem lw_p83 : lw_okq (⟨"LeafCradlesModel", "canPick", "(I)Z"⟩, 17) := ⟨⟨by decide +kernel, by decide +kernel⟩, List.mem_of_getElem? (i := 835) (by decide +kernel), List.mem_of_getElem? (i := 1208) (by decide +kernel), List.mem_of_getElem? (i := 1209) (by decide +kernel)⟩
theorem lw_p84 : lw_okq (⟨"LeafCradlesModel", "keepPicks", "()V"⟩, 17) := ⟨⟨by decide +kernel, by decide +kernel⟩, List.mem_of_getElem? (i := 835) (by decide +kernel), List.mem_of_getElem? (i := 1212) (by decide +kernel), List.mem_of_getElem? (i := 1213) (by decide +kernel)⟩
theorem lw_p85 : lw_okq (⟨"LeafCradlesModel", "bestNow", "(I)I"⟩, 17) := ⟨⟨by decide +kernel, by decide +kernel⟩, List.mem_of_getElem? (i := 835) (by decide +kernel), List.mem_of_getElem? (i := 1216) (by decide +kernel), List.mem_of_getElem? (i := 1217) (by decide +kernel)⟩
theorem lw_p86 : lw_okq (⟨"LeafCradlesModel", "openNow", "()D"⟩, 17) := ⟨⟨by decide +kernel, by decide +kernel⟩, List.mem_of_getElem? (i := 835) (by decide +kernel), List.mem_of_getElem? (i := 1224) (by decide +kernel), List.mem_of_getElem? (i := 1225) (by decide +kernel)⟩
theorem lw_p87 : lw_okq (⟨"LeafCradlesModel", "mix", "(J)V"⟩, 17) := ⟨⟨by decide +kernel, by decide +kernel⟩, List.mem_of_getElem? (i := 835) (by decide +kernel), List.mem_of_getElem? (i := 1233) (by decide +kernel), List.mem_of_getElem? (i := 1234) (by decide +kernel)⟩
theorem lw_p88 : lw_okq (⟨"LeafCradlesModel", "mixVolume", "(I)V"⟩, 17) := ⟨⟨by decide +kernel, by decide +kernel⟩, List.mem_of_getElem? (i := 835) (by decide +kernel), List.mem_of_getElem? (i := 1238) (by decide +kernel), List.mem_of_getElem? (i := 1239) (by decide +kernel)⟩
theorem lw_p89 : lw_okq (⟨"LeafCradlesModel", "mixAhead", "()V"⟩, 17) := ⟨⟨by decide +kernel, by decide +kernel⟩, List.mem_of_getElem? (i := 835) (by decide +kernel), List.mem_of_getElem? (i := 1242) (by decide +kernel), List.mem_of_getElem? (i := 1243) (by decide +kernel)⟩
def lw_privs_6 : List (MethodName × Nat) := [(⟨"LeafCradlesModel", "mayHave", "(II)Z"⟩, 17), (⟨"LeafCradlesModel", "scansOf", "(III)I"⟩, 17), (⟨"LeafCradlesModel", "toScan", "(I)I"⟩, 17), (⟨"LeafCradlesModel", "canPick", "(I)Z"⟩, 17), (⟨"LeafCradlesModel", "keepPicks", "()V"⟩, 17), (⟨"LeafCradlesModel", "bestNow", "(I)I"⟩, 17), (⟨"LeafCradlesModel", "openNow", "()D"⟩, 17), (⟨"LeafCradlesModel", "mix", "(J)V"⟩, 17), (⟨"LeafCradlesModel", "mixVolume", "(I)V"⟩, 17), (⟨"LeafCradlesModel", "mixAhead", "()V"⟩, 17)]
theorem lw_r6 : ∀ q ∈ lw_privs_6, lw_okq q := List.forall_mem_cons.mpr ⟨lw_p80, List.forall_mem_cons.mpr ⟨lw_p81, List.forall_mem_cons.mpr ⟨lw_p82, List.forall_mem_cons.mpr ⟨lw_p83, List.forall_mem_cons.mpr ⟨lw_p84, List.forall_mem_cons.mpr ⟨lw_p85, List.forall_mem_cons.mpr ⟨lw_p86, List.forall_mem_cons.mpr ⟨lw_p87, List.forall_mem_cons.mpr ⟨lw_p88, List.forall_mem_cons.mpr ⟨lw_p89, fun _ h => absurd h List.not_mem_nil⟩⟩⟩⟩⟩⟩⟩⟩⟩⟩
def lw_privs : List (MethodName × Nat) := lw_privs_1 ++ (lw_privs_2 ++ (lw_privs_3 ++ (lw_privs_4 ++ (lw_privs_5 ++ (lw_privs_6)))))
def lw_tbl : List Cond := k2_sels lw_privs ++ tables_1
theorem lw_privs_ok : ∀ q ∈ lw_privs, lw_okq q := by
  show ∀ q ∈ lw_privs_1 ++ (lw_privs_2 ++ (lw_privs_3 ++ (lw_privs_4 ++ (lw_privs_5 ++ (lw_privs_6))))), lw_okq q
  exact List.forall_mem_append.mpr ⟨lw_r1, List.forall_mem_append.mpr ⟨lw_r2, List.forall_mem_append.mpr ⟨lw_r3, List.forall_mem_append.mpr ⟨lw_r4, List.forall_mem_append.mpr ⟨lw_r5, lw_r6⟩⟩⟩⟩⟩
/-- the streams that the claim lets the run draw from -/
abbrev lw_cs : List Choice := [Jvm.Choice.named "NaN.bits"]
theorem lw_bits : nanBits ∈ lw_cs := by first | decide | exact List.mem_cons_self | simp [lw_cs, nanBits]
end
section
def RX0 : String := "LeafCradles$Archive"
def TX0 : u_T := fun k => match k with
  | 0 => ("LeafCradles$Archive", "volumes", "LLeafCradles$Table;", true)
  | 1 => ("LeafCradles$Archive", "leaves", "LLeafCradles$Table;", true)
  | 2 => ("LeafCradles$Archive", "cradles", "LLeafCradles$Table;", true)
  | 3 => ("LeafCradles$Archive", "carriers", "LLeafCradles$Table;", true)
  | 4 => ("LeafCradles$Archive", "entries", "LLeafCradles$Table;", true)
  | 5 => ("LeafCradles$Archive", "numbers", "LLeafCradles$Table;", true)
  | 6 => ("LeafCradles$Archive", "oldestSave", "I", false)
  | _ => ("LeafCradles$Archive", "saveCount", "I", false)
def tyX0 : Nat → FieldType := fun k => match k with
  | 0 => .object "LeafCradles$Table"
  | 1 => .object "LeafCradles$Table"
  | 2 => .object "LeafCradles$Table"
  | 3 => .object "LeafCradles$Table"
  | 4 => .object "LeafCradles$Table"
  | 5 => .object "LeafCradles$Table"
  | 6 => .int
  | _ => .int
theorem nmX0 : ∀ a, a < 8 → ∀ b, b < 8 → a ≠ b → (TX0 a).2.1 ≠ (TX0 b).2.1 := by decide +kernel
theorem tyX0_ok : ∀ k, k < 8 → parseFieldDescriptor (TX0 k).2.2.1 = some (tyX0 k) := by decide +kernel
def RX1 : String := "LeafCradles$BarText"
def TX1 : u_T := fun k => match k with
  | 0 => ("LeafCradles$BarText", "codes", "[I", true)
  | 1 => ("LeafCradles$BarText", "parts", "LLeafCradles$Table;", true)
  | 2 => ("LeafCradles$BarText", "length", "I", false)
  | 3 => ("LeafCradles$BarText", "partCount", "I", false)
  | 4 => ("LeafCradles$BarText", "reading", "I", false)
  | 5 => ("LeafCradles$BarText", "value", "I", false)
  | 6 => ("LeafCradles$BarText", "digits", "I", false)
  | 7 => ("LeafCradles$BarText", "first", "I", false)
  | _ => ("LeafCradles$BarText", "last", "I", false)
def tyX1 : Nat → FieldType := fun k => match k with
  | 0 => .array .int
  | 1 => .object "LeafCradles$Table"
  | 2 => .int
  | 3 => .int
  | 4 => .int
  | 5 => .int
  | 6 => .int
  | 7 => .int
  | _ => .int
theorem nmX1 : ∀ a, a < 9 → ∀ b, b < 9 → a ≠ b → (TX1 a).2.1 ≠ (TX1 b).2.1 := by decide +kernel
theorem tyX1_ok : ∀ k, k < 9 → parseFieldDescriptor (TX1 k).2.2.1 = some (tyX1 k) := by decide +kernel
def RX2 : String := "LeafCradles$LoadPlan"
def TX2 : u_T := fun k => match k with
  | 0 => ("LeafCradles$LoadPlan", "gains", "LLeafCradles$Table;", true)
  | 1 => ("LeafCradles$LoadPlan", "hopes", "LLeafCradles$Table;", true)
  | 2 => ("LeafCradles$LoadPlan", "chosen", "LLeafCradles$Table;", true)
  | _ => ("LeafCradles$LoadPlan", "most", "I", false)
def tyX2 : Nat → FieldType := fun k => match k with
  | 0 => .object "LeafCradles$Table"
  | 1 => .object "LeafCradles$Table"
  | 2 => .object "LeafCradles$Table"
  | _ => .int
theorem nmX2 : ∀ a, a < 4 → ∀ b, b < 4 → a ≠ b → (TX2 a).2.1 ≠ (TX2 b).2.1 := by decide +kernel
theorem tyX2_ok : ∀ k, k < 4 → parseFieldDescriptor (TX2 k).2.2.1 = some (tyX2 k) := by decide +kernel
def RX3 : String := "LeafCradles$Table"
def TX3 : u_T := fun k => match k with
  | 0 => ("LeafCradles$Table", "rows", "I", true)
  | 1 => ("LeafCradles$Table", "width", "I", true)
  | 2 => ("LeafCradles$Table", "cells", "[I", true)
  | _ => ("LeafCradles$Table", "copies", "[I", true)
def tyX3 : Nat → FieldType := fun k => match k with
  | 0 => .int
  | 1 => .int
  | 2 => .array .int
  | _ => .array .int
theorem nmX3 : ∀ a, a < 4 → ∀ b, b < 4 → a ≠ b → (TX3 a).2.1 ≠ (TX3 b).2.1 := by decide +kernel
theorem tyX3_ok : ∀ k, k < 4 → parseFieldDescriptor (TX3 k).2.2.1 = some (tyX3 k) := by decide +kernel
def RX4 : String := "LeafCradles"
def TX4 : u_T := fun k => match k with
  | 0 => ("LeafCradles", "archive", "LLeafCradles$Archive;", true)
  | 1 => ("LeafCradles", "text", "LLeafCradles$BarText;", true)
  | _ => ("LeafCradles", "plan", "LLeafCradles$LoadPlan;", true)
def tyX4 : Nat → FieldType := fun k => match k with
  | 0 => .object "LeafCradles$Archive"
  | 1 => .object "LeafCradles$BarText"
  | _ => .object "LeafCradles$LoadPlan"
theorem nmX4 : ∀ a, a < 3 → ∀ b, b < 3 → a ≠ b → (TX4 a).2.1 ≠ (TX4 b).2.1 := by decide +kernel
theorem tyX4_ok : ∀ k, k < 3 → parseFieldDescriptor (TX4 k).2.2.1 = some (tyX4 k) := by decide +kernel
def RX5 : String := "LeafCradlesModel"
def TX5 : u_T := fun k => match k with
  | 0 => ("LeafCradlesModel", "z", "[I", true)
  | 1 => ("LeafCradlesModel", "aside", "[I", true)
  | 2 => ("LeafCradlesModel", "rows", "[I", true)
  | 3 => ("LeafCradlesModel", "text", "[I", true)
  | 4 => ("LeafCradlesModel", "from", "[I", true)
  | 5 => ("LeafCradlesModel", "to", "[I", true)
  | 6 => ("LeafCradlesModel", "until", "[I", true)
  | 7 => ("LeafCradlesModel", "gains", "[I", true)
  | 8 => ("LeafCradlesModel", "pick", "[I", true)
  | 9 => ("LeafCradlesModel", "best", "[I", true)
  | 10 => ("LeafCradlesModel", "bestMany", "I", false)
  | 11 => ("LeafCradlesModel", "entries", "I", false)
  | 12 => ("LeafCradlesModel", "state", "I", false)
  | 13 => ("LeafCradlesModel", "saved", "I", false)
  | 14 => ("LeafCradlesModel", "length", "I", false)
  | 15 => ("LeafCradlesModel", "thrown", "I", false)
  | _ => ("LeafCradlesModel", "h", "J", false)
def tyX5 : Nat → FieldType := fun k => match k with
  | 0 => .array .int
  | 1 => .array .int
  | 2 => .array .int
  | 3 => .array .int
  | 4 => .array .int
  | 5 => .array .int
  | 6 => .array .int
  | 7 => .array .int
  | 8 => .array .int
  | 9 => .array .int
  | 10 => .int
  | 11 => .int
  | 12 => .int
  | 13 => .int
  | 14 => .int
  | 15 => .int
  | _ => .long
theorem nmX5 : ∀ a, a < 17 → ∀ b, b < 17 → a ≠ b → (TX5 a).2.1 ≠ (TX5 b).2.1 := by decide +kernel
theorem tyX5_ok : ∀ k, k < 17 → parseFieldDescriptor (TX5 k).2.2.1 = some (tyX5 k) := by decide +kernel
abbrev vwCl : List vw_C := [(RX0, TX0, 8), (RX1, TX1, 9), (RX2, TX2, 4), (RX3, TX3, 4), (RX4, TX4, 3), (RX5, TX5, 17)]
end
section
/-! THE SMALL MACHINE. A heap is a list of segments (segment 0: old arrays that nobody writes; the last: what is made later); a reference is 4096 * segment + place. -/
abbrev AC : Type := ((Nat × (Nat → Int32)) ⊕ (Nat × (Nat → Int64))) ⊕ (Nat × List Value)
abbrev AH : Type := List (List AC)
abbrev AL : Type := List (Option Value)
def ab_get (h : AH) (r : Nat) : Option AC := match h[r / 4096]? with
  | some s => s[r % 4096]?
  | none => none
def ab_set (h : AH) (r : Nat) (c : AC) : AH := match h[r / 4096]? with
  | some s => h.set (r / 4096) (s.set (r % 4096) c)
  | none => h
/-- the surroundings: launch, class ids, the classes of int and long arrays, old addresses, the first new address, the segments' sizes, whether nothing else is made -/
abbrev AE : Type := Launch × va_G × ClassId × ClassId × (Nat → Nat) × Nat × List Nat × Bool
abbrev AE.l (E : AE) : Launch := E.1
abbrev AE.D (E : AE) : va_G := E.2.1
abbrev AE.cI (E : AE) : ClassId := E.2.2.1
abbrev AE.cJ (E : AE) : ClassId := E.2.2.2.1
abbrev AE.old (E : AE) : Nat → Nat := E.2.2.2.2.1
abbrev AE.N0 (E : AE) : Nat := E.2.2.2.2.2.1
abbrev AE.caps (E : AE) : List Nat := E.2.2.2.2.2.2.1
abbrev AE.ex (E : AE) : Bool := E.2.2.2.2.2.2.2
def ab_A (E : AE) : Nat → Prop := fun q => E.N0 ≤ q
def ab_off (cs : List Nat) (j : Nat) : Nat := (cs.take j).sum
def ab_adr (E : AE) (r : Nat) : Nat := if r / 4096 = 0 then E.old (r % 4096) else E.N0 + ab_off E.caps (r / 4096 - 1) + r % 4096
def ab_v (E : AE) : Value → Value
  | .ref r => .ref (ab_adr E r)
  | v => v
def ab_cell (E : AE) : AC → va_E
  | .inl (.inl a) => .inl (E.cI, a.1, .inl a.2)
  | .inl (.inr a) => .inl (E.cJ, a.1, .inr (.inl a.2))
  | .inr o => .inr (o.1, o.2.map (ab_v E))
abbrev ab_tys (E : AE) : List (ClassId × FieldType) := [(E.cI, .int), (E.cJ, .long)]
/-- the heap H holds h -/
def ab_R (E : AE) (h : AH) (U : State) (H : Heap) : Prop :=
  (∀ (j n : Nat), E.caps[j]? = some n → ∃ s, h[j + 1]? = some s ∧ s.length = n) ∧
  (∃ tl, h[E.caps.length + 1]? = some tl ∧ E.N0 + E.caps.sum + tl.length ≤ H.size ∧ (E.ex = true → H.size = E.N0 + E.caps.sum + tl.length)) ∧
  h.length = E.caps.length + 2 ∧
  (∀ (r : Nat) (c : AC), ¬ r / 4096 = 0 → ab_get h r = some c → va_at E.D vwCl (ab_adr E r, ab_cell E c) H) ∧
  (∀ (r : Nat) (c : AC), r / 4096 = 0 → ab_get h r = some c → ∃ (n : Nat) (f : Nat → Int32), c = .inl (.inl (n, f)) ∧ ab_adr E r < E.N0 ∧ va_X (ab_adr E r) n f U H)
theorem ab_off_le (cs : List Nat) : ∀ i j : Nat, i ≤ j → ab_off cs i ≤ ab_off cs j := by
  intro i j h
  unfold ab_off
  induction cs generalizing i j with
  | nil => simp
  | cons c cs ih =>
    cases i with
    | zero => simp
    | succ i =>
      cases j with
      | zero => omega
      | succ j =>
        simp only [List.take_succ_cons, List.sum_cons]
        have := ih i j (by omega)
        omega
theorem ab_off_succ (cs : List Nat) : ∀ (j n : Nat), cs[j]? = some n → ab_off cs (j + 1) = ab_off cs j + n := by
  intro j n h
  unfold ab_off
  induction cs generalizing j with
  | nil => simp at h
  | cons c cs ih =>
    cases j with
    | zero => simp at h; subst h; simp
    | succ j =>
      simp only [List.take_succ_cons, List.sum_cons, List.getElem?_cons_succ] at h ⊢
      have := ih j h
      omega
theorem ab_off_all (cs : List Nat) : ab_off cs cs.length = cs.sum := by unfold ab_off; rw [List.take_length]
theorem ab_get_some {h : AH} {r : Nat} {c : AC} (hg : ab_get h r = some c) : ∃ s, h[r / 4096]? = some s ∧ s[r % 4096]? = some c := by
  unfold ab_get at hg
  cases hs : h[r / 4096]? with
  | none => rw [hs] at hg; cases hg
  | some s => rw [hs] at hg; exact ⟨s, rfl, hg⟩
/-- where a place of a new segment lies -/
theorem ab_where {E : AE} {h : AH} {U : State} {H : Heap} (hR : ab_R E h U H) {r : Nat} {c : AC} (h0 : ¬ r / 4096 = 0) (hg : ab_get h r = some c) :
    (r / 4096 - 1 < E.caps.length ∧ ab_off E.caps (r / 4096 - 1) + r % 4096 < ab_off E.caps (r / 4096)) ∨ (r / 4096 - 1 = E.caps.length ∧ ab_off E.caps (r / 4096 - 1) + r % 4096 + E.N0 < H.size) := by
  obtain ⟨s, h1, h2⟩ := ab_get_some hg
  obtain ⟨g1, ⟨tl, g2, g3, -⟩, g4, -, -⟩ := hR
  have hl : r / 4096 < h.length := (List.getElem?_eq_some_iff.mp h1).1
  have hi : r % 4096 < s.length := (List.getElem?_eq_some_iff.mp h2).1
  by_cases hj : r / 4096 - 1 < E.caps.length
  · obtain ⟨n, hn⟩ : ∃ n, E.caps[r / 4096 - 1]? = some n := ⟨_, List.getElem?_eq_getElem hj⟩
    obtain ⟨s', h3, h4⟩ := g1 _ _ hn
    rw [show r / 4096 - 1 + 1 = r / 4096 by omega] at h3
    cases h1.symm.trans h3
    have h5 := ab_off_succ _ _ _ hn
    rw [show r / 4096 - 1 + 1 = r / 4096 by omega] at h5
    left; exact ⟨hj, by omega⟩
  · have he : r / 4096 - 1 = E.caps.length := by omega
    have h3 : h[r / 4096]? = some tl := by rw [show r / 4096 = E.caps.length + 1 by omega]; exact g2
    cases h1.symm.trans h3
    have h5 := ab_off_all E.caps
    right
    refine ⟨he, ?_⟩
    rw [he, h5]
    omega
theorem ab_adr_new {E : AE} {r : Nat} (h0 : ¬ r / 4096 = 0) : ab_adr E r = E.N0 + ab_off E.caps (r / 4096 - 1) + r % 4096 := by unfold ab_adr; rw [if_neg h0]
theorem ab_ge {E : AE} {r : Nat} (h0 : ¬ r / 4096 = 0) : ab_A E (ab_adr E r) := by
  rw [ab_adr_new h0]; unfold ab_A; omega
theorem ab_inj {E : AE} {h : AH} {U : State} {H : Heap} (hR : ab_R E h U H) {r r' : Nat} {c c' : AC} (h0 : ¬ r / 4096 = 0) (h0' : ¬ r' / 4096 = 0) (hg : ab_get h r = some c) (hg' : ab_get h r' = some c') (he : ab_adr E r = ab_adr E r') : r = r' := by
  have w := ab_where hR h0 hg
  have w' := ab_where hR h0' hg'
  rw [ab_adr_new h0, ab_adr_new h0'] at he
  rcases Nat.lt_trichotomy (r / 4096) (r' / 4096) with hlt | heq | hgt
  · have := ab_off_le E.caps (r / 4096) (r' / 4096 - 1) (by omega)
    rcases w with ⟨w1, w2⟩ | ⟨w1, w2⟩
    · omega
    · rcases w' with ⟨w3, w4⟩ | ⟨w3, w4⟩ <;> omega
  · rw [heq] at he
    omega
  · have := ab_off_le E.caps (r' / 4096) (r / 4096 - 1) (by omega)
    rcases w' with ⟨w1, w2⟩ | ⟨w1, w2⟩
    · omega
    · rcases w with ⟨w3, w4⟩ | ⟨w3, w4⟩ <;> omega
theorem ab_get_set {h : AH} {r : Nat} {c c0 : AC} (hg : ab_get h r = some c0) (q : Nat) : ab_get (ab_set h r c) q = if q = r then some c else ab_get h q := by
  obtain ⟨s, h1, h2⟩ := ab_get_some hg
  have hl : r / 4096 < h.length := (List.getElem?_eq_some_iff.mp h1).1
  have hi : r % 4096 < s.length := (List.getElem?_eq_some_iff.mp h2).1
  unfold ab_set ab_get
  rw [h1]
  dsimp only
  by_cases hj : q / 4096 = r / 4096
  · rw [hj, List.getElem?_set_self hl, h1]
    dsimp only
    by_cases hi2 : q % 4096 = r % 4096
    · rw [hi2, List.getElem?_set_self hi, if_pos (by omega)]
    · rw [List.getElem?_set_ne (fun e => hi2 e.symm), if_neg (by intro e; subst e; exact hi2 rfl)]
  · rw [List.getElem?_set_ne (fun e => hj e.symm), if_neg (by intro e; subst e; exact hj rfl)]
theorem ab_set_seg {h : AH} {r : Nat} {c c0 : AC} (hg : ab_get h r = some c0) : (ab_set h r c).length = h.length ∧ ∀ j : Nat, (∃ s, h[j]? = some s) → ∃ s s', h[j]? = some s ∧ (ab_set h r c)[j]? = some s' ∧ s'.length = s.length := by
  obtain ⟨s, h1, h2⟩ := ab_get_some hg
  have hl : r / 4096 < h.length := (List.getElem?_eq_some_iff.mp h1).1
  unfold ab_set
  rw [h1]
  dsimp only
  refine ⟨by simp, fun j ⟨t, ht⟩ => ?_⟩
  by_cases hj : j = r / 4096
  · subst hj
    exact ⟨s, _, h1, List.getElem?_set_self hl, by simp⟩
  · exact ⟨t, t, ht, by rw [List.getElem?_set_ne (fun e => hj e.symm)]; exact ht, rfl⟩
/-- one new cell is written -/
theorem ab_R_set {E : AE} {h : AH} {U : State} {H H1 : Heap} (hR : ab_R E h U H) {r : Nat} {c0 c : AC} (h0 : ¬ r / 4096 = 0) (hg : ab_get h r = some c0) (ha : va_at E.D vwCl (ab_adr E r, ab_cell E c) H1) (hz : H1.size = H.size) (ho : ∀ q, q ≠ ab_adr E r → H1[q]? = H[q]?) : ab_R E (ab_set h r c) U H1 := by
  obtain ⟨e1, e2⟩ := ab_set_seg (c := c) hg
  have hR' := hR
  obtain ⟨g1, ⟨tl, g2, g3, g3e⟩, g4, g5, g6⟩ := hR
  refine ⟨fun j n hn => ?_, ?_, e1.trans g4, fun q d q0 hq => ?_, fun q d q0 hq => ?_⟩
  · obtain ⟨s, s1, s2⟩ := g1 j n hn
    obtain ⟨t, t', t1, t2, t3⟩ := e2 (j + 1) ⟨s, s1⟩
    cases s1.symm.trans t1
    exact ⟨t', t2, t3.trans s2⟩
  · obtain ⟨t, t', t1, t2, t3⟩ := e2 _ ⟨tl, g2⟩
    cases g2.symm.trans t1
    exact ⟨t', t2, by rw [hz, t3]; exact g3, fun z => by rw [hz, t3]; exact g3e z⟩
  · rw [ab_get_set hg] at hq
    by_cases e : q = r
    · rw [if_pos e] at hq
      cases hq
      rw [e]; exact ha
    · rw [if_neg e] at hq
      exact (g5 q d q0 hq).kept (ho _ (fun z => e (ab_inj hR' q0 h0 hq hg z)))
  · rw [ab_get_set hg] at hq
    by_cases e : q = r
    · rw [e] at q0; exact absurd q0 h0
    · rw [if_neg e] at hq
      obtain ⟨n, f, f1, f2, f3⟩ := g6 q d q0 hq
      refine ⟨n, f, f1, f2, f3.kept (ho _ (fun z => ?_))⟩
      have := ab_ge (E := E) h0
      unfold ab_A at this
      omega
/-- a cell is made, at the end -/
def ab_push (h : AH) (c : AC) : AH := h.set (h.length - 1) ((h.getD (h.length - 1) []) ++ [c])
theorem ab_R_push {E : AE} {h : AH} {U : State} {H H1 : Heap} (hR : ab_R E h U H) (hex : E.ex = true) {c : AC} (ha : va_at E.D vwCl (H.size, ab_cell E c) H1) (hz : H1.size = H.size + 1) (ho : ∀ q, q < H.size → H1[q]? = H[q]?) : ab_R E (ab_push h c) U H1 ∧ (∀ tl, h[E.caps.length + 1]? = some tl → ab_adr E (4096 * (E.caps.length + 1) + tl.length) = H.size ∨ 4096 ≤ tl.length) := by
  have hR' := hR
  obtain ⟨g1, ⟨tl, g2, -, g3e⟩, g4, g5, g6⟩ := hR
  have g3 := g3e hex
  have hl : h.length - 1 = E.caps.length + 1 := by omega
  have hd : h.getD (h.length - 1) [] = tl := by rw [List.getD_eq_getElem?_getD, hl, g2]; rfl
  have hlt : E.caps.length + 1 < h.length := by omega
  have hp : ab_push h c = h.set (E.caps.length + 1) (tl ++ [c]) := by unfold ab_push; rw [hd, hl]
  have low : ∀ (q : Nat) (d : AC), ab_get h q = some d → ¬ q / 4096 = 0 → ab_adr E q < H.size := fun q d hq q0 => (g5 q d q0 hq).lt
  refine ⟨?_, fun t ht => ?_⟩
  · rw [hp]
    refine ⟨fun j n hn => ?_, ⟨tl ++ [c], List.getElem?_set_self hlt, by rw [hz, g3]; simp; omega, fun _ => by rw [hz, g3]; simp; omega⟩, by simp [g4], fun q d q0 hq => ?_, fun q d q0 hq => ?_⟩
    · obtain ⟨s, s1, s2⟩ := g1 j n hn
      have hj : j < E.caps.length := (List.getElem?_eq_some_iff.mp hn).1
      exact ⟨s, by rw [List.getElem?_set_ne (by omega)]; exact s1, s2⟩
    · unfold ab_get at hq
      by_cases e : E.caps.length + 1 = q / 4096
      · rw [← e, List.getElem?_set_self hlt] at hq
        dsimp only at hq
        by_cases e2 : q % 4096 < tl.length
        · rw [List.getElem?_append_left e2] at hq
          have h9 : ab_get h q = some d := by unfold ab_get; rw [← e, g2]; exact hq
          exact (g5 q d q0 h9).kept (ho _ (low q d h9 q0))
        · rw [List.getElem?_append_right (by omega)] at hq
          have e3 : q % 4096 - tl.length = 0 := by
            have := (List.getElem?_eq_some_iff.mp hq).1
            simp at this
            omega
          rw [e3] at hq
          cases hq
          have e4 : ab_adr E q = H.size := by
            rw [ab_adr_new q0, ← e, g3, show E.caps.length + 1 - 1 = E.caps.length by omega, ab_off_all]
            omega
          rw [e4]; exact ha
      · rw [List.getElem?_set_ne e] at hq
        have h9 : ab_get h q = some d := by unfold ab_get; exact hq
        exact (g5 q d q0 h9).kept (ho _ (low q d h9 q0))
    · unfold ab_get at hq
      rw [List.getElem?_set_ne (by omega)] at hq
      have h9 : ab_get h q = some d := by unfold ab_get; exact hq
      obtain ⟨n, f, f1, f2, f3⟩ := g6 q d q0 h9
      refine ⟨n, f, f1, f2, f3.kept (ho _ ?_)⟩
      omega
  · cases g2.symm.trans ht
    by_cases e : 4096 ≤ tl.length
    · exact Or.inr e
    · left
      have e1 : (4096 * (E.caps.length + 1) + tl.length) / 4096 = E.caps.length + 1 := by omega
      have e2 : (4096 * (E.caps.length + 1) + tl.length) % 4096 = tl.length := by omega
      unfold ab_adr
      rw [e1, e2, if_neg (by omega), show E.caps.length + 1 - 1 = E.caps.length by omega, ab_off_all, g3]
/-- other cells may have been made -/
theorem ab_R_more {E : AE} {h : AH} {U : State} {H H1 : Heap} (hR : ab_R E h U H) (hex : E.ex = false) (hz : H.size ≤ H1.size) (ho : ∀ q, q < H.size → H1[q]? = H[q]?) : ab_R E h U H1 := by
  obtain ⟨g1, ⟨tl, g2, g3, -⟩, g4, g5, g6⟩ := hR
  refine ⟨g1, ⟨tl, g2, Nat.le_trans g3 hz, fun z => ?_⟩, g4, fun q d q0 hq => ?_, fun q d q0 hq => ?_⟩
  · rw [hex] at z; cases z
  · exact (g5 q d q0 hq).kept (ho _ (g5 q d q0 hq).lt)
  · obtain ⟨n, f, f1, f2, f3⟩ := g6 q d q0 hq
    exact ⟨n, f, f1, f2, f3.kept (ho _ (by omega))⟩
end
section
/-! the words that may be handed on -/
def ab_W : List Cond := lw_tbl.filter goodWord
theorem ab_W_good {w : Cond} (h : w ∈ ab_W) : (w.onTables && w.keeps) = true ∨ ∃ ty, w = .arrayClass ty := good_of_word (List.mem_filter.mp h).2
def ab_at (i : Nat) (w : Cond) : Bool := decide (lw_tbl[i]? = some w) && goodWord w
theorem ab_at_mem {i : Nat} {w : Cond} (h : ab_at i w = true) : w ∈ ab_W := by
  unfold ab_at at h
  rw [Bool.and_eq_true, decide_eq_true_eq] at h
  exact List.mem_filter.mpr ⟨List.mem_of_getElem? h.1, h.2⟩
def ab_ats : List Nat → List Cond → Bool
  | [], [] => true
  | i :: is, w :: ws => ab_at i w && ab_ats is ws
  | _, _ => false
theorem ab_ats_mem : ∀ {is : List Nat} {ws : List Cond}, ab_ats is ws = true → ∀ w ∈ ws, w ∈ ab_W
  | [], [], _ => fun w h => nomatch h
  | i :: is, x :: ws, h => fun w hw => by
    unfold ab_ats at h
    rw [Bool.and_eq_true] at h
    rcases List.mem_cons.mp hw with e | e
    · rw [e]; exact ab_at_mem h.1
    · exact ab_ats_mem h.2 w e
  | [], _ :: _, h => by simp [ab_ats] at h
  | _ :: _, [], h => by simp [ab_ats] at h
theorem ab_lay0 : ab_ats [155, 157, 159, 161, 163, 165, 167, 169] (u_ws RX0 TX0 8) = true := by decide +kernel
theorem ab_ini0 : ab_ats [115, 92] [.instantiable RX0 8, .initialized RX0] = true := by decide +kernel
theorem ab_lay1 : ab_ats [189, 191, 193, 195, 197, 199, 201, 203, 205] (u_ws RX1 TX1 9) = true := by decide +kernel
theorem ab_ini1 : ab_ats [173, 95] [.instantiable RX1 9, .initialized RX1] = true := by decide +kernel
theorem ab_lay2 : ab_ats [220, 222, 224, 226] (u_ws RX2 TX2 4) = true := by decide +kernel
theorem ab_ini2 : ab_ats [209, 96] [.instantiable RX2 4, .initialized RX2] = true := by decide +kernel
theorem ab_lay3 : ab_ats [133, 135, 137, 139] (u_ws RX3 TX3 4) = true := by decide +kernel
theorem ab_ini3 : ab_ats [121, 93] [.instantiable RX3 4, .initialized RX3] = true := by decide +kernel
theorem ab_lay4 : ab_ats [232, 234, 236] (u_ws RX4 TX4 3) = true := by decide +kernel
theorem ab_ini4 : ab_ats [107, 91] [.instantiable RX4 3, .initialized RX4] = true := by decide +kernel
theorem ab_lay5 : ab_ats [947, 949, 951, 953, 955, 957, 959, 961, 963, 965, 967, 969, 971, 973, 975, 977, 979] (u_ws RX5 TX5 17) = true := by decide +kernel
theorem ab_ini5 : ab_ats [925, 97] [.instantiable RX5 17, .initialized RX5] = true := by decide +kernel
/-- what the tables say of the class with this number -/
def ab_ty (ci : Nat) : Nat → FieldType := match ci with
  | 0 => tyX0
  | 1 => tyX1
  | 2 => tyX2
  | 3 => tyX3
  | 4 => tyX4
  | _ => tyX5
theorem ab_cls : ∀ (ci : Nat) (C : String) (T : u_T) (N : Nat), vwCl[ci]? = some (C, T, N) → (∀ w ∈ u_ws C T N, w ∈ ab_W) ∧ Cond.instantiable C N ∈ ab_W ∧ Cond.initialized C ∈ ab_W ∧ (∀ k, k < N → parseFieldDescriptor (T k).2.2.1 = some (ab_ty ci k)) ∧ (∀ a, a < N → ∀ b, b < N → a ≠ b → (T a).2.1 ≠ (T b).2.1) ∧ ∀ k, k < N → (T k).1 = C := by
  intro ci C T N h
  match ci, h with
  | 0, h => cases h; exact ⟨ab_ats_mem ab_lay0, ab_ats_mem ab_ini0 _ (by simp), ab_ats_mem ab_ini0 _ (by simp), tyX0_ok, nmX0, by decide +kernel⟩
  | 1, h => cases h; exact ⟨ab_ats_mem ab_lay1, ab_ats_mem ab_ini1 _ (by simp), ab_ats_mem ab_ini1 _ (by simp), tyX1_ok, nmX1, by decide +kernel⟩
  | 2, h => cases h; exact ⟨ab_ats_mem ab_lay2, ab_ats_mem ab_ini2 _ (by simp), ab_ats_mem ab_ini2 _ (by simp), tyX2_ok, nmX2, by decide +kernel⟩
  | 3, h => cases h; exact ⟨ab_ats_mem ab_lay3, ab_ats_mem ab_ini3 _ (by simp), ab_ats_mem ab_ini3 _ (by simp), tyX3_ok, nmX3, by decide +kernel⟩
  | 4, h => cases h; exact ⟨ab_ats_mem ab_lay4, ab_ats_mem ab_ini4 _ (by simp), ab_ats_mem ab_ini4 _ (by simp), tyX4_ok, nmX4, by decide +kernel⟩
  | 5, h => cases h; exact ⟨ab_ats_mem ab_lay5, ab_ats_mem ab_ini5 _ (by simp), ab_ats_mem ab_ini5 _ (by simp), tyX5_ok, nmX5, by decide +kernel⟩
  | _ + 6, h => simp [vwCl] at h
/-- static fields that nobody writes: class, name, descriptor, the old array's reference -/
def ab_stF : List (String × String × String × Nat) := [("LeafCradles", "LEAST_SETTING", "[I", 1), ("LeafCradles", "GREATEST_SETTING", "[I", 2)]
def ab_strs : List (String × Nat × String) := [("LeafCradles", 252, "an argument is out of range"), ("LeafCradles", 40, "there are 12 volumes"), ("LeafCradles", 52, "there are 4 cradles"), ("LeafCradles", 58, "there are 3 carriers"), ("LeafCradles", 256, "there is none with this number"), ("LeafCradles", 91, "there is a reason against it"), ("LeafCradles", 100, "it cannot be brought back by this carrier now"), ("LeafCradles", 105, "the number of the minute would be above 20000"), ("LeafCradles", 116, "the leaf is not good"), ("LeafCradles", 124, "the buffer has 60 characters"), ("LeafCradles", 141, "the buffer is not a complete list of bars"), ("LeafCradles", 147, "the volume does not have all of these leaves"), ("LeafCradles", 165, "there is no saved state")]
def ab_nc : List (String × String) := [("java/lang/IllegalArgumentException", "java/lang/IllegalStateException"), ("java/lang/IllegalArgumentException", "java/lang/IndexOutOfBoundsException"), ("java/lang/IllegalStateException", "java/lang/IllegalArgumentException"), ("java/lang/IllegalStateException", "java/lang/IndexOutOfBoundsException"), ("java/lang/IndexOutOfBoundsException", "java/lang/IllegalArgumentException"), ("java/lang/IndexOutOfBoundsException", "java/lang/IllegalStateException")]
def ab_exs : List String := ["java/lang/IllegalArgumentException", "java/lang/IllegalStateException", "java/lang/IndexOutOfBoundsException"]
def ab_decls : List MethodName := [⟨"java/lang/RuntimeException", "<init>", "()V"⟩, ⟨"java/lang/RuntimeException", "<init>", "(Ljava/lang/String;)V"⟩, ⟨"java/lang/Exception", "<init>", "()V"⟩, ⟨"java/lang/Exception", "<init>", "(Ljava/lang/String;)V"⟩, ⟨"java/lang/Throwable", "<init>", "()V"⟩, ⟨"java/lang/Throwable", "<init>", "(Ljava/lang/String;)V"⟩]
def ab_nest : List (Nat × MethodName) := [(18, ⟨"LeafCradles$BarText", "<init>", "()V"⟩), (25, ⟨"LeafCradles$LoadPlan", "<init>", "()V"⟩)]
/-- the words of the JDK's own methods -/
def ab_jw : Nat → Bool := fun a => match a with
  | 1 => ab_ats [127, 94, 128] [.static Lib.Math.max.name, .initialized "java/lang/Math", .code Lib.Math.max.name Lib.Math.max.code 2 (some .int)]
  | 2 => ab_ats [] [.static Lib.Math.min.name, .initialized "java/lang/Math", .code Lib.Math.min.name Lib.Math.min.code 2 (some .int)]
  | 3 => ab_ats [427, 94, 428] [.static Lib.Math.abs.name, .initialized "java/lang/Math", .code Lib.Math.abs.name Lib.Math.abs.code 1 (some .int)]
  | 4 => ab_ats [332, 103, 333] [.static arraycopyName, .initialized "java/lang/System", .native arraycopyName]
  | 5 => ab_ats [112, 113] [.instanceMethod Lib.objectInit, .code Lib.objectInit ⟨#[0xb1]⟩ 1 none]
  | 6 => ab_ats [1342, 105, 1343] [.static ⟨"java/lang/Double", "doubleToRawLongBits", "(D)J"⟩, .initialized "java/lang/Double", .native ⟨"java/lang/Double", "doubleToRawLongBits", "(D)J"⟩]
  | _ => false
end
section
/-! a method: its name, bytes, locals, answer's type, table of handlers -/
abbrev AM : Type := MethodName × ByteArray × Nat × Option FieldType × List (Nat × Nat × Nat × Nat)
abbrev AM.y (M : AM) : MethodName := M.1
abbrev AM.bytes (M : AM) : ByteArray := M.2.1
abbrev AM.maxL (M : AM) : Nat := M.2.2.1
abbrev AM.ret (M : AM) : Option FieldType := M.2.2.2.1
abbrev AM.hh (M : AM) : List (Nat × Nat × Nat × Nat) := M.2.2.2.2
abbrev AM.own (M : AM) : String := M.1.cls
/-- an instruction: pc, instruction, length, three numbers, a value -/
abbrev AI : Type := Nat × Instr × Nat × Nat × Nat × Nat × Value
abbrev AO : Type := Option (List Prop × (Nat × AL × List Value) × AH)
def ab_isT : Nat → Value → Bool
  | 0, .int _ => true
  | 1, .long _ => true
  | 2, .double _ => true
  | 3, .ref _ => true
  | _, _ => false
def ab_clr (L : AL) : Nat → AL
  | 0 => L
  | a + 1 => match L[a]? with
    | some (some (.long _)) => L.set a none
    | some (some (.double _)) => L.set a none
    | _ => L
def ab_put1 (L : AL) (a : Nat) (v : Value) : AL := (ab_clr L a).set a (some v)
def ab_put2 (L : AL) (a : Nat) (v : Value) : AL := ((ab_clr L a).set a (some v)).set (a + 1) none
def ab_load (t pc n a : Nat) (L : AL) (st : List Value) (h : AH) : AO := match L[a]? with
  | some (some v) => match ab_isT t v with
    | true => some ([], (pc + n, L, v :: st), h)
    | false => none
  | _ => none
def ab_store1 (t pc n a : Nat) (L : AL) (st : List Value) (h : AH) : AO := match st with
  | v :: r => match ab_isT t v with
    | true => some ([], (pc + n, ab_put1 L a v, r), h)
    | false => none
  | [] => none
def ab_store2 (t pc n a : Nat) (L : AL) (st : List Value) (h : AH) : AO := match st with
  | v :: r => match ab_isT t v with
    | true => some ([], (pc + n, ab_put2 L a v, r), h)
    | false => none
  | [] => none
def ab_bin (f : Int32 → Int32 → Int32) (pc n : Nat) (L : AL) (st : List Value) (h : AH) : AO := match st with
  | .int y :: .int x :: r => some ([], (pc + n, L, .int (f x y) :: r), h)
  | _ => none
def ab_binZ (f : Int32 → Int32 → Int32) (pc n : Nat) (L : AL) (st : List Value) (h : AH) : AO := match st with
  | .int y :: .int x :: r => some ([¬ y = 0], (pc + n, L, .int (f x y) :: r), h)
  | _ => none
def ab_un (f : Int32 → Value) (pc n : Nat) (L : AL) (st : List Value) (h : AH) : AO := match st with
  | .int x :: r => some ([], (pc + n, L, f x :: r), h)
  | _ => none
def ab_binL (f : Int64 → Int64 → Value) (pc n : Nat) (L : AL) (st : List Value) (h : AH) : AO := match st with
  | .long y :: .long x :: r => some ([], (pc + n, L, f x y :: r), h)
  | _ => none
def ab_binD (f : UInt64 → UInt64 → UInt64) (pc n : Nat) (L : AL) (st : List Value) (h : AH) : AO := match st with
  | .double y :: .double x :: r => some ([vf_n64 (f x y)], (pc + n, L, .double (f x y) :: r), h)
  | _ => none
def ab_okv : FieldType → Value → Bool
  | .int, .int _ => true
  | .long, .long _ => true
  | .object _, .ref _ => true
  | .array _, .ref _ => true
  | _, _ => false
def ab_getf (pc n a b : Nat) (L : AL) (st : List Value) (h : AH) : AO := match st with
  | .ref q :: r => match ab_get h q with
    | some (.inr (ci, fs)) => match Nat.beq ci a, fs[b]? with
      | true, some w => some ([], (pc + n, L, w :: r), h)
      | _, _ => none
    | _ => none
  | _ => none
def ab_putf (pc n a b : Nat) (L : AL) (st : List Value) (h : AH) : AO := match st with
  | w :: .ref q :: r => match ab_get h q with
    | some (.inr (ci, fs)) => match Nat.beq ci a, Nat.blt b fs.length, ab_okv (ab_ty a b) w with
      | true, true, true => some ([], (pc + n, L, r), ab_set h q (.inr (ci, fs.set b w)))
      | _, _, _ => none
    | _ => none
  | _ => none
def ab_ald (pc n : Nat) (L : AL) (st : List Value) (h : AH) : AO := match st with
  | .int i :: .ref q :: r => match ab_get h q with
    | some (.inl (.inl (m, f))) => some ([vp_in i m], (pc + n, L, .int (f i.toNatClampNeg) :: r), h)
    | _ => none
  | _ => none
def ab_lald (pc n : Nat) (L : AL) (st : List Value) (h : AH) : AO := match st with
  | .int i :: .ref q :: r => match ab_get h q with
    | some (.inl (.inr (m, f))) => some ([vp_in i m], (pc + n, L, .long (f i.toNatClampNeg) :: r), h)
    | _ => none
  | _ => none
def ab_ast (pc n : Nat) (L : AL) (st : List Value) (h : AH) : AO := match st with
  | .int x :: .int i :: .ref q :: r => match ab_get h q, Nat.beq (q / 4096) 0 with
    | some (.inl (.inl (m, f))), false => some ([vp_in i m], (pc + n, L, r), ab_set h q (.inl (.inl (m, upd f i.toNatClampNeg x))))
    | _, _ => none
  | _ => none
def ab_last (pc n : Nat) (L : AL) (st : List Value) (h : AH) : AO := match st with
  | .long x :: .int i :: .ref q :: r => match ab_get h q, Nat.beq (q / 4096) 0 with
    | some (.inl (.inr (m, f))), false => some ([vp_in i m], (pc + n, L, r), ab_set h q (.inl (.inr (m, vp_updL f i.toNatClampNeg x))))
    | _, _ => none
  | _ => none
def ab_alen (pc n : Nat) (L : AL) (st : List Value) (h : AH) : AO := match st with
  | .ref q :: r => match ab_get h q with
    | some (.inl (.inl (m, _))) => some ([], (pc + n, L, .int (Int32.ofNat m) :: r), h)
    | _ => none
  | _ => none
def ab_cat (st : List Value) : Bool := Nat.ble ((st.map fun v => v.category).sum) 8
/-- Math.max, min, abs; arraycopy; the raw bits of a double -/
def ab_jdk (pc n a : Nat) (L : AL) (st : List Value) (h : AH) : AO := match a with
  | 1 => match st with
    | .int y :: .int x :: r => match ab_cat r with
      | true => some ([], (pc + n, L, .int (if x < y then y else x) :: r), h)
      | false => none
    | _ => none
  | 2 => match st with
    | .int y :: .int x :: r => match ab_cat r with
      | true => some ([], (pc + n, L, .int (if y < x then y else x) :: r), h)
      | false => none
    | _ => none
  | 3 => match st with
    | .int x :: r => match ab_cat r with
      | true => some ([], (pc + n, L, .int (if 0 ≤ x then x else 0 - x) :: r), h)
      | false => none
    | _ => none
  | 4 => match st with
    | .int k :: .int dp :: .ref d :: .int sp :: .ref q :: r => match ab_cat r, ab_get h q, ab_get h d, Nat.beq (q / 4096) 0, Nat.beq (d / 4096) 0 with
      | true, some (.inl (.inl (m0, f))), some (.inl (.inl (m1, g))), false, false => some ([¬ sp < 0, ¬ dp < 0, ¬ k < 0, sp.toNatClampNeg + k.toNatClampNeg ≤ m0, dp.toNatClampNeg + k.toNatClampNeg ≤ m1], (pc + n, L, r), ab_set h d (.inl (.inl (m1, va_cpy f g sp.toNatClampNeg dp.toNatClampNeg k.toNatClampNeg))))
      | _, _, _, _, _ => none
    | _ => none
  | 6 => match st with
    | .double b :: r => match ab_cat r with
      | true => some ([], (pc + n, L, .long b.toInt64 :: r), h)
      | false => none
    | _ => none
  | _ => none
def ab_step (x : AI) (L : AL) (st : List Value) (h : AH) : AO := match x with
  | (pc, i, n, a, b, _, v) => match i with
    | .iconst _ | .bipush _ | .sipush _ | .lconst _ | .dconst _ | .ldc _ | .ldc2_w _ => some ([], (pc + n, L, v :: st), h)
    | .iload _ | .iload_n _ => ab_load 0 pc n a L st h
    | .lload _ | .lload_n _ => ab_load 1 pc n a L st h
    | .dload _ | .dload_n _ => ab_load 2 pc n a L st h
    | .aload _ | .aload_n _ => ab_load 3 pc n a L st h
    | .istore _ | .istore_n _ => ab_store1 0 pc n a L st h
    | .astore _ | .astore_n _ => ab_store1 3 pc n a L st h
    | .lstore _ | .lstore_n _ => ab_store2 1 pc n a L st h
    | .dstore _ | .dstore_n _ => ab_store2 2 pc n a L st h
    | .iinc _ _ => match L[a]?, v with
      | some (some (.int x)), .int k => some ([], (pc + n, ab_put1 L a (.int (x + k)), st), h)
      | _, _ => none
    | .iadd => ab_bin (fun x y => x + y) pc n L st h
    | .isub => ab_bin (fun x y => x - y) pc n L st h
    | .imul => ab_bin (fun x y => x * y) pc n L st h
    | .iand => ab_bin (fun x y => x &&& y) pc n L st h
    | .ior => ab_bin (fun x y => x ||| y) pc n L st h
    | .ishl => ab_bin (fun x y => x <<< (y &&& 31)) pc n L st h
    | .iushr => ab_bin (fun x y => (x.toUInt32 >>> (y.toUInt32 &&& Int32.toUInt32 31)).toInt32) pc n L st h
    | .idiv => ab_binZ (fun x y => x / y) pc n L st h
    | .irem => ab_binZ (fun x y => x - x / y * y) pc n L st h
    | .ineg => ab_un (fun x => .int (-x)) pc n L st h
    | .i2l => ab_un (fun x => .long x.toInt64) pc n L st h
    | .i2d => ab_un (fun x => .double (FP.i2d x)) pc n L st h
    | .ladd => ab_binL (fun x y => .long (x + y)) pc n L st h
    | .lsub => ab_binL (fun x y => .long (x - y)) pc n L st h
    | .lmul => ab_binL (fun x y => .long (x * y)) pc n L st h
    | .lor => ab_binL (fun x y => .long (x ||| y)) pc n L st h
    | .lcmp => ab_binL (fun x y => .int (lg_cmp x y)) pc n L st h
    | .lshl => match st with
      | .int y :: .long x :: r => some ([], (pc + n, L, .long (x <<< (y.toInt64 &&& 63)) :: r), h)
      | _ => none
    | .dmul => ab_binD FP.dmul pc n L st h
    | .dsub => ab_binD FP.dsub pc n L st h
    | .ddiv => ab_binD FP.ddiv pc n L st h
    | .dcmp op => match st with
      | .double y :: .double x :: r => some ([], (pc + n, L, .int (Op.cmpValue (FP.dcmp x y) op) :: r), h)
      | _ => none
    | .d2l => match st with
      | .double x :: r => some ([], (pc + n, L, .long (FP.d2l x) :: r), h)
      | _ => none
    | .dup => match st with
      | v :: r => match Nat.beq v.category 1 with
        | true => some ([], (pc + n, L, v :: v :: r), h)
        | false => none
      | _ => none
    | .dup2 => match st with
      | v :: w :: r => match Nat.beq v.category 1, Nat.beq w.category 1 with
        | true, true => some ([], (pc + n, L, v :: w :: v :: w :: r), h)
        | _, _ => none
      | _ => none
    | .pop => match st with
      | v :: r => match Nat.beq v.category 1 with
        | true => some ([], (pc + n, L, r), h)
        | false => none
      | _ => none
    | .goto _ => some ([], (a, L, st), h)
    | .getfield _ => ab_getf pc n a b L st h
    | .putfield _ => ab_putf pc n a b L st h
    | .getstatic _ => some ([], (pc + n, L, .ref a :: st), h)
    | .iaload => ab_ald pc n L st h
    | .laload => ab_lald pc n L st h
    | .iastore => ab_ast pc n L st h
    | .lastore => ab_last pc n L st h
    | .arraylength => ab_alen pc n L st h
    | .invokestatic _ => ab_jdk pc n a L st h
    | .invokespecial _ => match st with
      | .ref _ :: r => match ab_cat r with
        | true => some ([], (pc + n, L, r), h)
        | false => none
      | _ => none
    | _ => none
def ab_run : List AI → Nat → AL → List Value → AH → AO
  | [], pc, L, st, h => some ([], (pc, L, st), h)
  | x :: xs, pc, L, st, h => match Nat.beq x.1 pc with
    | true => match ab_step x L st h with
      | some (P, (pc', L', st'), h') => match ab_run xs pc' L' st' h' with
        | some (Q, r) => some (P ++ Q, r)
        | none => none
      | none => none
    | false => none
/-! what is to be checked of an instruction, once, by program -/
def ab_link (own : String) (idx a b c : Nat) : Bool := match vwCl[a]? with
  | some (C, T, N) => Nat.blt b N && ab_at c (.fieldLink own idx C (T b).2.1 (T b).2.2.1)
  | none => false
def ab_fin (own nm : String) (a b : Nat) : Bool := match vwCl[a]? with
  | some (C, T, _) => if (T b).2.2.2 = true then decide (nm = "<init>") && decide (C = own) else true
  | none => false
def ab_okI (M : AM) (x : AI) : Bool := match x with
  | (pc, i, n, a, b, c, v) => match i with
    | .iconst k => Nat.beq n 1 && decide (v = .int (Int32.ofInt k))
    | .bipush k => Nat.beq n 2 && decide (v = .int (Int8.ofInt k).toInt32)
    | .sipush k => Nat.beq n 3 && decide (v = .int (Int16.ofInt k).toInt32)
    | .lconst k => Nat.beq n 1 && decide (v = .long (Int64.ofNat (k : Nat)))
    | .dconst k => Nat.beq n 1 && (match k with
      | 0 => decide (v = .double FP.dconst0)
      | 1 => decide (v = .double FP.dconst1))
    | .ldc idx => Nat.beq n 2 && (match v with
      | .int z => ab_at c (.constant M.own idx z)
      | _ => false)
    | .ldc2_w idx => Nat.beq n 3 && (match v with
      | .long z => ab_at c (.constantLong M.own idx z)
      | .double z => ab_at c (.constantDouble M.own idx z)
      | _ => false)
    | .iload k | .lload k | .dload k | .aload k => Nat.beq n 2 && Nat.beq k a
    | .iload_n k | .lload_n k | .dload_n k | .aload_n k => Nat.beq n 1 && Nat.beq k a
    | .istore k | .astore k => Nat.beq n 2 && Nat.beq k a && Nat.blt a M.maxL
    | .istore_n k | .astore_n k => Nat.beq n 1 && Nat.beq k a && Nat.blt a M.maxL
    | .lstore k | .dstore k => Nat.beq n 2 && Nat.beq k a && Nat.blt (a + 1) M.maxL
    | .lstore_n k | .dstore_n k => Nat.beq n 1 && Nat.beq k a && Nat.blt (a + 1) M.maxL
    | .iinc k z => Nat.beq n 3 && Nat.beq k a && Nat.blt a M.maxL && decide (v = .int (Int32.ofInt z))
    | .goto off => Nat.beq n 3 && decide ((pc : Int) + off = (a : Int))
    | .getfield idx => Nat.beq n 3 && ab_link M.own idx a b c
    | .putfield idx => Nat.beq n 3 && ab_link M.own idx a b c && ab_fin M.own M.y.name a b
    | .getstatic idx => Nat.beq n 3 && (match ab_stF[b]? with
      | some (C, f, d, r) => decide (C = M.own) && Nat.beq r a && ab_at c (.fieldLink M.own idx C f d)
      | none => false)
    | .invokestatic idx => Nat.beq n 3 && ab_jw a && (match a with
      | 1 => ab_at c (.methodLink M.own idx Lib.Math.max.name)
      | 2 => ab_at c (.methodLink M.own idx Lib.Math.min.name)
      | 3 => ab_at c (.methodLink M.own idx Lib.Math.abs.name)
      | 4 => ab_at c (.methodLink M.own idx arraycopyName)
      | 6 => ab_at c (.methodLink M.own idx ⟨"java/lang/Double", "doubleToRawLongBits", "(D)J"⟩)
      | _ => false)
    | .invokespecial idx => Nat.beq n 3 && Nat.beq a 5 && ab_jw 5 && ab_at c (.methodLink M.own idx Lib.objectInit)
    | _ => Nat.beq n 1
def ab_ok (M : AM) (x : AI) : Bool := decide (decode M.bytes x.1 = .ok (x.2.1, x.2.2.1)) && ab_okI M x
def ab_oks (M : AM) (xs : List AI) : Bool := xs.all (ab_ok M)
def ab_all : List Prop → Prop
  | [] => True
  | [p] => p
  | p :: q :: r => p ∧ ab_all (q :: r)
end
section
def ab_Cs (C : String) (U : State) : Prop := ∃ c : ClassId, U.vm.findClass C = some c ∧ U.vm.assignable c c = true
theorem ab_Cs.moved {C : String} {u U : State} (hvm : u.vm.Alike U.vm) (h : ab_Cs C u) : ab_Cs C U := by
  obtain ⟨c, h1, h2⟩ := h
  exact ⟨c, by rw [hvm.findClass]; exact h1, by rw [hvm.assignable]; exact h2⟩
theorem ab_Cs.word {C : String} {args : Array Value} {s : State} (h : ab_Cs C s) : (Cond.castable C C).before args s = true := by
  obtain ⟨c, h1, h2⟩ := h
  simp [Cond.before, Cond.holds, Cond.value, h1, h2]
theorem ab_Cs.of {C : String} {args : Array Value} {s : State} (h : (Cond.castable C C).before args s = true) : ab_Cs C s := by
  obtain ⟨c3, c4, hc3, hc4, hasg⟩ := Cond.castable_spec h
  cases hc3.symm.trans hc4
  exact ⟨c3, hc3, hasg⟩
/-- what holds of the state's statics, strings, classes' kinship -/
def ab_SF (E : AE) (U : State) : Prop :=
  (∀ q ∈ ab_stF, va_Z q.1 q.2.1 q.2.2.1 (.ref (ab_adr E q.2.2.2)) (ab_A E) U U.heap) ∧ vx_Zq Bundle.tN "UNASSIGNED_STACK" Bundle.steD (ab_A E) U U.heap ∧ vx_Zq Bundle.tN "SUPPRESSED_SENTINEL" Bundle.listD (ab_A E) U U.heap ∧
  (∀ q ∈ ab_strs, ∃ sa, vk_R q.1 q.2.1 q.2.2 sa U) ∧ (∀ q ∈ ab_nc, va_Nc q.1 q.2 U) ∧ (∀ q ∈ ab_nest, va_Nw (.methodLinkNest "LeafCradles" q.1 q.2 "LeafCradles") U) ∧ E.l.stackTraces = false ∧ E.N0 ≤ U.heap.size ∧ (∀ q ∈ ab_exs, ab_Cs q U) ∧ (∀ q ∈ ab_decls, va_Nw (.declares q) U)
theorem ab_SF.moved {E : AE} {s U : State} {H : Heap} {locs : List Loc} (h : ab_SF E s) (hW : s.WarmedH U.vm) (hS : va_S (ab_A E) s.heap H locs) (hU : U.heap = H) : ab_SF E U := by
  obtain ⟨h1, h2, h3, h4, h5, h6, h7, h8, h9, h10⟩ := h
  refine ⟨fun q hq => ?_, ?_, ?_, fun q hq => ?_, fun q hq => ?_, fun q hq => ?_, h7, ?_, fun q hq => (h9 q hq).moved hW.alike, fun q hq => va_Nw.warmD hW (h10 q hq)⟩
  · rw [hU]; exact va_Z.moved hW.alike ((h1 q hq).kept hS.2.1)
  · rw [hU]; exact vx_Zq.moved hW.alike (h2.kept hS.2.1)
  · rw [hU]; exact vx_Zq.moved hW.alike (h3.kept hS.2.1)
  · obtain ⟨sa, h⟩ := h4 q hq
    exact ⟨sa, vk_R.warm hW h⟩
  · exact va_Nc.moved hW.alike (h5 q hq)
  · exact va_Nw.warmM hW (h6 q hq)
  · rw [hU]; exact Nat.le_trans h8 hS.1
def ab_Ctx (E : AE) (M : AM) (d : Nat) (p : Program) (R : Room) (s : State) (m : MethodId) (args : Array Value) (meth : Method) (c : Code) : Prop :=
  p.tables.exec = Jvm.exec ∧ c.code = M.bytes ∧ c.maxLocals = M.maxL ∧ meth.sig.returnType = M.ret ∧ s.vm.findClass M.own = some m.cls ∧ (∀ w ∈ ab_W, w.before args s = true) ∧ meth.locks = false ∧ meth.name = M.y.name ∧
  c.exceptionTable.toList = tableOf M.hh ∧ va_K E.D vwCl (ab_tys E) s ∧ ab_SF E s ∧ d + 8 ≤ R.frames ∧ 40 * d + 200 ≤ R.locals ∧ s.vm.findClass "[I" = some E.cI ∧ s.vm.findClass "[J" = some E.cJ
def ab_lvs (E : AE) (L : AL) : List (Nat × Value) := L.zipIdx.filterMap (fun q => q.1.map (fun v => (q.2, ab_v E v)))
theorem ab_lvs_mem {E : AE} {L : AL} {q : Nat × Value} : q ∈ ab_lvs E L ↔ ∃ v, L[q.1]? = some (some v) ∧ q.2 = ab_v E v := by
  unfold ab_lvs
  rw [List.mem_filterMap]
  constructor
  · rintro ⟨⟨o, i⟩, h1, h2⟩
    rw [List.mem_zipIdx_iff_getElem?] at h1
    cases o with
    | none => simp at h2
    | some v => simp at h2; subst h2; exact ⟨v, h1, rfl⟩
  · rintro ⟨v, h1, h2⟩
    refine ⟨(some v, q.1), by rw [List.mem_zipIdx_iff_getElem?]; exact h1, ?_⟩
    simp only [Option.map_some]
    rw [← h2]
theorem ab_has_of {ls : Array Slot} {n : Nat} {l l' : List (Nat × Value)} (h : lv_has ls n l) (hs : ∀ q ∈ l', q ∈ l) : lv_has ls n l' := ⟨h.1, h.2.1, fun q hq => h.2.2 q (hs q hq)⟩
theorem ab_has_at {E : AE} {ls : Array Slot} {n : Nat} {L : AL} (h : lv_has ls n (ab_lvs E L)) {a : Nat} {v : Value} (hv : L[a]? = some (some v)) : ls[a]? = some (.val (ab_v E v)) := h.2.2 (a, ab_v E v) (ab_lvs_mem.mpr ⟨v, hv, rfl⟩)
theorem ab_cat_v (E : AE) (v : Value) : (ab_v E v).category = v.category := by cases v <;> rfl
theorem ab_clr_get (L : AL) (a j : Nat) (v : Value) (h : (ab_clr L a)[j]? = some (some v)) : L[j]? = some (some v) ∧ ¬ (j + 1 = a ∧ v.category = 2) := by
  cases a with
  | zero => exact ⟨h, by omega⟩
  | succ a =>
    simp only [ab_clr] at h
    split at h
    · by_cases e : j = a
      · subst e
        rw [List.getElem?_set] at h
        split at h
        · split at h <;> simp at h
        · exact absurd rfl (by assumption)
      · rw [List.getElem?_set_ne (fun z => e z.symm)] at h
        exact ⟨h, by omega⟩
    · by_cases e : j = a
      · subst e
        rw [List.getElem?_set] at h
        split at h
        · split at h <;> simp at h
        · exact absurd rfl (by assumption)
      · rw [List.getElem?_set_ne (fun z => e z.symm)] at h
        exact ⟨h, by omega⟩
    · rename_i h1 h2
      refine ⟨h, ?_⟩
      rintro ⟨e, hc⟩
      have e' : j = a := by omega
      subst e'
      cases v with
      | long z => exact h1 z h
      | double z => exact h2 z h
      | _ => simp [Value.category] at hc
theorem ab_put1_has {E : AE} {ls : Array Slot} {n : Nat} {L : AL} {a : Nat} {v : Value} (h : lv_has ls n ((a, ab_v E v) :: (ab_lvs E L).filter (fun q => !(q.1 == a) && !(q.1 + 1 == a && q.2.category == 2)))) : lv_has ls n (ab_lvs E (ab_put1 L a v)) := by
  refine ab_has_of h fun q hq => ?_
  obtain ⟨w, h1, h2⟩ := ab_lvs_mem.mp hq
  unfold ab_put1 at h1
  by_cases e : q.1 = a
  · rw [e, List.getElem?_set] at h1
    split at h1
    · split at h1
      · cases h1
        rw [show q = (q.1, q.2) from rfl, e, h2]
        exact List.mem_cons_self
      · cases h1
    · exact absurd rfl (by assumption)
  · rw [List.getElem?_set_ne (fun z => e z.symm)] at h1
    obtain ⟨g1, g2⟩ := ab_clr_get L a q.1 w h1
    refine List.mem_cons_of_mem _ (List.mem_filter.mpr ⟨ab_lvs_mem.mpr ⟨w, g1, h2⟩, ?_⟩)
    rw [h2, ab_cat_v]
    simp [e]
    omega
theorem ab_put2_has {E : AE} {ls : Array Slot} {n : Nat} {L : AL} {a : Nat} {v : Value} (h : lv_has ls n ((a, ab_v E v) :: (ab_lvs E L).filter (fun q => !(q.1 == a) && (!(q.1 == a + 1) && !(q.1 + 1 == a && q.2.category == 2))))) : lv_has ls n (ab_lvs E (ab_put2 L a v)) := by
  refine ab_has_of h fun q hq => ?_
  obtain ⟨w, h1, h2⟩ := ab_lvs_mem.mp hq
  unfold ab_put2 at h1
  by_cases e0 : q.1 = a + 1
  · rw [e0, List.getElem?_set] at h1
    split at h1
    · split at h1 <;> cases h1
    · exact absurd rfl (by assumption)
  · rw [List.getElem?_set_ne (fun z => e0 z.symm)] at h1
    by_cases e : q.1 = a
    · rw [e, List.getElem?_set] at h1
      split at h1
      · split at h1
        · cases h1
          rw [show q = (q.1, q.2) from rfl, e, h2]
          exact List.mem_cons_self
        · cases h1
      · exact absurd rfl (by assumption)
    · rw [List.getElem?_set_ne (fun z => e z.symm)] at h1
      obtain ⟨g1, g2⟩ := ab_clr_get L a q.1 w h1
      refine List.mem_cons_of_mem _ (List.mem_filter.mpr ⟨ab_lvs_mem.mpr ⟨w, g1, h2⟩, ?_⟩)
      rw [h2, ab_cat_v]
      simp [e, e0]
      omega
/-- how a method ends: with an answer, or with an exception of a class -/
abbrev AR0 : Type := Option Value ⊕ String
def ab_Qc (E : AE) (o : AR0) (h' : AH) : Array Value → State → Outcome → State → Prop := fun _ st oc t => ∃ r, o = .inl r ∧ oc = .returned (r.map (ab_v E)) ∧ ab_R E h' t t.heap ∧ va_F (ab_A E) st t
def ab_Xc (E : AE) (o : AR0) (h' : AH) : String → State → State → Prop := fun En st t => o = .inr En ∧ ab_R E h' t t.heap ∧ va_F (ab_A E) st t
/-- from here (pc, locals, stack, heap) the method M comes to its end o, h' -/
def AR (E : AE) (M : AM) (d pc : Nat) (L : AL) (st : List Value) (h : AH) (o : AR0) (h' : AH) (mc ms : Nat) : Prop :=
  ∀ (p : Program) (e : Env) (R : Room) (s : State) (m : MethodId) (args : Array Value) (below : List Frame) (meth : Method) (c : Code) (H : Heap) (locs : List Loc) (cells slots : Nat) (ls : Array Slot) (mcT msT : Nat),
    ab_Ctx E M d p R s m args meth c → ab_R E h s H → va_S (ab_A E) s.heap H locs → lv_has ls M.maxL (ab_lvs E L) → cells + mc ≤ mcT → slots + ms ≤ msT → mcT ≤ R.cells → msT ≤ R.slots →
    W p E.l e R s m args below meth c H locs cells slots (vx_MQ below (ab_Qc E o h') (ab_Xc E o h') args s mcT msT (ab_A E)) (F0 m pc ls (st.map (ab_v E)))
theorem ab_R.moved {E : AE} {h : AH} {u U : State} {H : Heap} (hvm : u.vm.Alike U.vm) (hR : ab_R E h u H) : ab_R E h U H := by
  obtain ⟨g1, g2, g4, g5, g6⟩ := hR
  refine ⟨g1, g2, g4, g5, fun q d q0 hq => ?_⟩
  obtain ⟨n, f, f1, f2, f3⟩ := g6 q d q0 hq
  exact ⟨n, f, f1, f2, va_X.moved hvm f3⟩
theorem ab_all_cons {p : Prop} {ps : List Prop} (h : ab_all (p :: ps)) : p ∧ ab_all ps := by
  cases ps with
  | nil => exact ⟨h, trivial⟩
  | cons q r => exact h
theorem ab_all_app : ∀ {ps qs : List Prop}, ab_all (ps ++ qs) → ab_all ps ∧ ab_all qs
  | [], qs, h => ⟨trivial, h⟩
  | p :: ps, qs, h => by
    obtain ⟨h1, h2⟩ := ab_all_cons (ps := ps ++ qs) h
    obtain ⟨h3, h4⟩ := ab_all_app h2
    refine ⟨?_, h4⟩
    cases ps with
    | nil => exact h1
    | cons q r => exact ⟨h1, h3⟩
end
section
section AM
variable {p : Program} {l : Launch} {e : Env} {R : Room} {s : State} {m : MethodId} {args : Array Value} {below : List Frame} {meth : Method} {c : Code} {H : Heap} {locs : List Loc} {cells slots : Nat} {Q : State → Prop}
variable {cc : ByteArray} {pc : Nat} {ls : Array Slot} {rest : List Value} {D : va_G} {cl : List vw_C} {A : Nat → Prop} {a : Nat} {tys : List (ClassId × FieldType)} {H0 : Heap}
theorem ab_P1 {q : Nat × va_E} (h : va_at D cl q H) : va_P D cl [q] H := by
  intro k x hx
  cases k with
  | zero => cases hx; exact h
  | succ k => simp at hx
theorem am_put (hexec : p.tables.exec = Jvm.exec) (hb : c.code = cc) {own C : String} {T : u_T} {N ci index : Nat} {Ts : List Cond} (hts : ∀ w ∈ Ts, w.before args s = true) (hin : ∀ w ∈ u_ws C T N, w ∈ Ts) (ty0 : Nat → FieldType) (hty : ∀ k, k < N → parseFieldDescriptor (T k).2.2.1 = some (ty0 k)) (hnm : ∀ a, a < N → ∀ b, b < N → a ≠ b → (T a).2.1 ≠ (T b).2.1) (hown : s.vm.findClass own = some m.cls) (hK : va_K D cl tys s) (hS0 : va_S A H0 H locs) {fs : List Value} (hA : A a) (he : va_at D cl (a, .inr (ci, fs)) H) (hc : cl[ci]? = some (C, T, N)) (k : Nat) (hk : k < N) (hC : (T k).1 = C) (hlink : (Cond.fieldLink own index C (T k).2.1 (T k).2.2.1).before args s = true) (hfin : (T k).2.2.2 = true → meth.name = "<init>" ∧ C = own) {v : Value} (hn : narrow (ty0 k) v = v) (hfit : fits (ty0 k) v = true) (hl : k < fs.length)
    (hdg : decode cc pc = .ok (.putfield index, 3)) (kk : ∀ (H1 : Heap) (locs1 : List Loc), va_at D cl (a, .inr (ci, fs.set k v)) H1 → H1.size = H.size → (∀ q, q ≠ a → H1[q]? = H[q]?) → va_S A H0 H1 locs1 → W p l e R s m args below meth c H1 locs1 cells slots Q (F0 m (pc + 3) ls rest)) : W p l e R s m args below meth c H locs cells slots Q (F0 m pc ls (v :: .ref a :: rest)) := by
  have hap := va_apart (own := own) hts hin ty0 hty hnm hK hc
  obtain ⟨r, h1, cell, q1, q2, q3, q4⟩ := he
  have hr : r = (C, T, N) := Option.some.inj (h1.symm.trans hc)
  subst hr
  obtain ⟨hS, hfc, kC, hkC, hkind⟩ := hK.1 ci _ hc
  obtain ⟨cf, kf, fi, f, hi, hsl⟩ := hS k hk
  have hi' : s.fieldFound? C (T k).2.1 (T k).2.2.1 = some (cf, kf, fi, f) := by rw [← hC]; exact hi
  have hlay := hts _ (hin _ (u_in_lay hk))
  have hst := (u_facts hfc hkC (u_lays hts hin hk) hi).1
  cases hf : (T k).2.2.2 with
  | false =>
    unfold u_lay at hlay
    rw [if_neg (by rw [hf]; decide)] at hlay
    have h6 := u_store hfc hkC hkind hlay hi (hty k hk) hn hfit
    refine W.putK hexec hb (f := f) ⟨hown, hlink, ⟨_, _, _, hi'⟩, hst⟩ (by rw [q2]; exact h6) q1 q3 (by rw [hsl]; exact k2_hasslot (q4 k hk)) rfl rfl hdg fun H' e1 e2 e3 => ?_
    rw [hsl] at e1 ⊢
    exact kk H' _ ⟨_, hc, t_OB.to (V := updV (vp_V fs) k v) ⟨_, e1, q2, q3, t_set q4 hap hk v⟩ (fun j _ => vp_updV_set hl v j)⟩ e2 e3 (hS0.put e2 e3 hA)
  | true =>
    obtain ⟨hin2, hdecl⟩ := hfin hf
    unfold u_lay at hlay
    rw [if_pos hf] at hlay
    have hcf : m.cls = cf := by
      obtain ⟨_, _, c', _, _, _, -, -, hf', -, -, -, hown2, -⟩ := Cond.laysFinal_spec hlay
      have e1 : c' = cf := by have := hi.symm.trans hf'; simp at this; exact this.1.symm
      rw [hC, hdecl] at hown2
      rw [← e1]; exact Option.some.inj (hown.symm.trans hown2)
    have h6 := u_fits hfc hkC hkind (Or.inr hlay) hi (hty k hk) hn hfit
    refine W.putFinK hexec hb hown hlink hi' hst hcf hin2 (by rw [q2]; exact h6) q1 q3 (by rw [hsl]; exact k2_hasslot (q4 k hk)) rfl rfl hdg fun H' e1 e2 e3 => ?_
    rw [hsl] at e1 ⊢
    exact kk H' _ ⟨_, hc, t_OB.to (V := updV (vp_V fs) k v) ⟨_, e1, q2, q3, t_set q4 hap hk v⟩ (fun j _ => vp_updV_set hl v j)⟩ e2 e3 (hS0.put e2 e3 hA)
theorem am_iast (hexec : p.tables.exec = Jvm.exec) (hb : c.code = cc) (hS : va_S A H0 H locs) {cA : ClassId} {n : Nat} {f : Nat → Int32} (hAr : ArrOfT s cA .int) (hA : A a) (ha : va_at D cl (a, .inl (cA, n, .inl f)) H) {i : Int32} {x : Int32} (hin : vp_in i n) (hdg : decode cc pc = .ok (.iastore, 1))
    (kk : ∀ (H1 : Heap) (locs1 : List Loc), va_at D cl (a, .inl (cA, n, .inl (upd f i.toNatClampNeg x))) H1 → H1.size = H.size → (∀ q, q ≠ a → H1[q]? = H[q]?) → va_S A H0 H1 locs1 → W p l e R s m args below meth c H1 locs1 cells slots Q (F0 m (pc + 1) ls rest)) : W p l e R s m args below meth c H locs cells slots Q (F0 m pc ls (.int x :: .int i :: .ref a :: rest)) := by
  refine W.iast hexec hb ha (hAr n (fun j => .int (f j))) (fun q => by cases q) (by show ¬ (i < 0 ∨ (arrV _ _ _).slots.size ≤ _); rw [arrV_size]; exact hin) rfl rfl hdg fun H1 e z oq => ?_
  refine kk H1 _ ?_ z oq (hS.put z oq hA)
  have e' : H1[a]? = some ((vp_cell cA (n, .inl f)).setSlot i.toNatClampNeg (.int x)) := e
  show H1[a]? = some (vp_cell cA (n, .inl (upd f i.toNatClampNeg x)))
  rw [e', vp_cell_i, vp_cell_i, arrV_store]
  congr 2
  funext q
  by_cases hq : q = i.toNatClampNeg
  · subst hq
    simp [updV, upd]
  · simp [updV, upd, hq]
theorem am_last (hexec : p.tables.exec = Jvm.exec) (hb : c.code = cc) (hS : va_S A H0 H locs) {cA : ClassId} {n : Nat} {f : Nat → Int64} (hAr : ArrOfT s cA .long) (hA : A a) (ha : va_at D cl (a, .inl (cA, n, .inr (.inl f))) H) {i : Int32} {x : Int64} (hin : vp_in i n) (hdg : decode cc pc = .ok (.lastore, 1))
    (kk : ∀ (H1 : Heap) (locs1 : List Loc), va_at D cl (a, .inl (cA, n, .inr (.inl (vp_updL f i.toNatClampNeg x)))) H1 → H1.size = H.size → (∀ q, q ≠ a → H1[q]? = H[q]?) → va_S A H0 H1 locs1 → W p l e R s m args below meth c H1 locs1 cells slots Q (F0 m (pc + 1) ls rest)) : W p l e R s m args below meth c H locs cells slots Q (F0 m pc ls (.long x :: .int i :: .ref a :: rest)) := by
  refine W.last hexec hb ha (hAr n (fun j => .long (f j))) (fun q => by cases q) (by show ¬ (i < 0 ∨ (arrV _ _ _).slots.size ≤ _); rw [arrV_size]; exact hin) rfl rfl hdg fun H1 e z oq => ?_
  refine kk H1 _ ?_ z oq (hS.put z oq hA)
  have e' : H1[a]? = some ((vp_cell cA (n, .inr (.inl f))).setSlot i.toNatClampNeg (.long x)) := e
  show H1[a]? = some (vp_cell cA (n, .inr (.inl (vp_updL f i.toNatClampNeg x))))
  rw [e', vp_cell_l, vp_cell_l, arrV_store]
  congr 2
  funext q
  by_cases hq : q = i.toNatClampNeg
  · subst hq
    simp [updV, vp_updL]
  · simp [updV, vp_updL, hq]
theorem am_copyi (hexec : p.tables.exec = Jvm.exec) (hb : c.code = cc) (hml : c.maxLocals = ls.size) {own : String} {index : Nat} (hown : s.vm.findClass own = some m.cls) (hlink : (Cond.methodLink own index arraycopyName).before args s = true) (hnat : (Cond.native arraycopyName).before args s = true) (hstat : (Cond.static arraycopyName).before args s = true) (hini : (Cond.initialized "java/lang/System").before args s = true)
    (hS : va_S A H0 H locs) {a0 : Nat} {c0 : ClassId} {n0 n1 : Nat} {f g : Nat → Int32} (hAr : ArrOfT s c0 .int) (hA : A a) (ha0 : va_at D cl (a0, .inl (c0, n0, .inl f)) H) (ha1 : va_at D cl (a, .inl (c0, n1, .inl g)) H)
    {sp dp n : Int32} (h1 : ¬ sp < 0) (h2 : ¬ dp < 0) (h3 : ¬ n < 0) (h4 : sp.toNatClampNeg + n.toNatClampNeg ≤ n0) (h5 : dp.toNatClampNeg + n.toNatClampNeg ≤ n1)
    (hframes : 1 ≤ R.frames) (hlocals : (rest.map fun v => v.category).sum + (nativeFrameWords "java/lang/System" "arraycopy" 5 + 11) ≤ R.locals) (hdg : decode cc pc = .ok (.invokestatic index, 3))
    (kk : ∀ (H1 : Heap) (locs1 : List Loc), va_at D cl (a, .inl (c0, n1, .inl (va_cpy f g sp.toNatClampNeg dp.toNatClampNeg n.toNatClampNeg))) H1 → H1.size = H.size → (∀ q, q ≠ a → H1[q]? = H[q]?) → va_S A H0 H1 locs1 → W p l e R s m args below meth c H1 locs1 cells slots Q (F0 m (pc + 3) ls rest)) : W p l e R s m args below meth c H locs cells slots Q (F0 m pc ls (.int n :: .int dp :: .ref a :: .int sp :: .ref a0 :: rest)) := by
  have nn : ∀ z : Int32, ¬ z < 0 → z.toInt = (z.toNatClampNeg : Int) := by
    intro z hz
    have hz0 : (0 : Int) ≤ z.toInt := by
      have := Int32.not_lt.mp hz
      simpa using Int32.le_iff_toInt_le.mp this
    show z.toInt = ((z.toInt.toNat : Nat) : Int)
    omega
  intro T hT X
  have hc0 : H[a0]? = some (vp_cell c0 (n0, .inl f)) := ha0
  have hc1 : H[a]? = some (vp_cell c0 (n1, .inl g)) := ha1
  obtain ⟨-, k0, hk0, cm0, hkk0⟩ := hAr n0 (fun j => .int (f j))
  obtain ⟨-, k1, hk1, cm1, hkk1⟩ := hAr n1 (fun j => .int (g j))
  obtain ⟨vm', X', step⟩ := X.arraycopy hexec hown hlink hnat hstat hini (src := a0) (dst := a) (cs := vp_cell c0 (n0, .inl f)) (cd := vp_cell c0 (n1, .inl g)) (srcPos := sp) (destPos := dp) (n := n) (by rw [hT]; exact hc0) (by rw [hT]; exact hc1)
    (fun _ h => by cases h) (fun _ h => by cases h) (fun h => by cases h) (fun h => by cases h) hk0 hk1 hkk0 hkk1 (by simp [refKind]) h1 h2 h3
    (by rw [nn sp h1, nn n h3]; show ¬ _ > ((arrV c0 n0 (fun j => .int (f j))).slots.size : Int); rw [arrV_size]; omega)
    (by rw [nn dp h2, nn n h3]; show ¬ _ > ((arrV c0 n1 (fun j => .int (g j))).slots.size : Int); rw [arrV_size]; omega)
    (fun vm₁ _ i hi => by
      have e : (vp_cell c0 (n0, .inl f)).slots.getD (sp.toNatClampNeg + i) .null = .int (f (sp.toNatClampNeg + i)) := by
        show (arrV c0 n0 (fun j => .int (f j))).slots.getD _ _ = _
        rw [Array.getD_eq_getD_getElem?, arrV_read _ _ (by omega)]
        rfl
      refine ⟨?_, ?_⟩
      · rw [e]
        rfl
      · rw [e]
        exact trivial)
    (g := F0 m pc ls (.int n :: .int dp :: .ref a :: .int sp :: .ref a0 :: rest)) rfl (by rw [hml]) (rest := rest) rfl (by rw [hb]; exact hdg) hframes (by show 2 * 0 + _ + _ ≤ _; omega)
  have e1 : copied (vp_cell c0 (n0, .inl f)) (vp_cell c0 (n1, .inl g)) sp dp n = vp_cell c0 (n1, .inl (va_cpy f g sp.toNatClampNeg dp.toNatClampNeg n.toNatClampNeg)) := va_copied (fun z => .int z) c0 c0 f g h4
  rw [e1] at X' step
  have hl : a < H.size := (Array.getElem?_eq_some_iff.mp hc1).1
  have hheap : ((T.setVm vm').setCell a (vp_cell c0 (n1, .inl (va_cpy f g sp.toNatClampNeg dp.toNatClampNeg n.toNatClampNeg)))).heap = H.setIfInBounds a (vp_cell c0 (n1, .inl (va_cpy f g sp.toNatClampNeg dp.toNatClampNeg n.toNatClampNeg))) := by rw [← hT]; rfl
  have oq : ∀ q : Nat, q ≠ a → (H.setIfInBounds a (vp_cell c0 (n1, .inl (va_cpy f g sp.toNatClampNeg dp.toNatClampNeg n.toNatClampNeg))))[q]? = H[q]? := fun q hq => by simp [Array.getElem?_setIfInBounds, Ne.symm hq]
  obtain ⟨t, a1, b1⟩ := kk _ _ (show (H.setIfInBounds a _)[a]? = some _ by simp [Array.getElem?_setIfInBounds, hl]) (by simp) oq ⟨by simp; exact hS.1, fun q g1 g2 => by
      rw [oq q (fun e => g2 (by rw [e]; exact hA))]
      exact hS.2.1 q g1 g2, fun q hq => by
      rcases List.mem_append.mp hq with h | h
      · exact hS.2.2 q h
      · obtain ⟨z, -, hz⟩ := List.mem_map.mp h
        rw [← hz]
        exact hA⟩ _ hheap X'
  exact ⟨t, step t a1, b1⟩
end AM
theorem ab_isT_0 {v : Value} (h : ab_isT 0 v = true) : ∃ z, v = .int z := by cases v <;> simp [ab_isT] at h; exact ⟨_, rfl⟩
theorem ab_isT_1 {v : Value} (h : ab_isT 1 v = true) : ∃ z, v = .long z := by cases v <;> simp [ab_isT] at h; exact ⟨_, rfl⟩
theorem ab_isT_2 {v : Value} (h : ab_isT 2 v = true) : ∃ z, v = .double z := by cases v <;> simp [ab_isT] at h; exact ⟨_, rfl⟩
theorem ab_isT_3 {v : Value} (h : ab_isT 3 v = true) : ∃ z, v = .ref z := by cases v <;> simp [ab_isT] at h; exact ⟨_, rfl⟩
section INV
variable {t pc n a b : Nat} {L : AL} {st : List Value} {h : AH} {r : List Prop × (Nat × AL × List Value) × AH}
theorem ab_load_inv (hs : ab_load t pc n a L st h = some r) : ∃ v, L[a]? = some (some v) ∧ ab_isT t v = true ∧ r = ([], (pc + n, L, v :: st), h) := by
  unfold ab_load at hs
  split at hs
  · rename_i v hv
    split at hs
    · cases hs; exact ⟨v, hv, by assumption, rfl⟩
    · cases hs
  · cases hs
theorem ab_store1_inv (hs : ab_store1 t pc n a L st h = some r) : ∃ v q, st = v :: q ∧ ab_isT t v = true ∧ r = ([], (pc + n, ab_put1 L a v, q), h) := by
  unfold ab_store1 at hs
  split at hs
  · split at hs
    · cases hs; exact ⟨_, _, rfl, by assumption, rfl⟩
    · cases hs
  · cases hs
theorem ab_store2_inv (hs : ab_store2 t pc n a L st h = some r) : ∃ v q, st = v :: q ∧ ab_isT t v = true ∧ r = ([], (pc + n, ab_put2 L a v, q), h) := by
  unfold ab_store2 at hs
  split at hs
  · split at hs
    · cases hs; exact ⟨_, _, rfl, by assumption, rfl⟩
    · cases hs
  · cases hs
theorem ab_bin_inv {f : Int32 → Int32 → Int32} (hs : ab_bin f pc n L st h = some r) : ∃ x y q, st = .int y :: .int x :: q ∧ r = ([], (pc + n, L, .int (f x y) :: q), h) := by
  unfold ab_bin at hs
  split at hs
  · cases hs; exact ⟨_, _, _, rfl, rfl⟩
  · cases hs
theorem ab_binZ_inv {f : Int32 → Int32 → Int32} (hs : ab_binZ f pc n L st h = some r) : ∃ x y q, st = .int y :: .int x :: q ∧ r = ([¬ y = 0], (pc + n, L, .int (f x y) :: q), h) := by
  unfold ab_binZ at hs
  split at hs
  · cases hs; exact ⟨_, _, _, rfl, rfl⟩
  · cases hs
theorem ab_un_inv {f : Int32 → Value} (hs : ab_un f pc n L st h = some r) : ∃ x q, st = .int x :: q ∧ r = ([], (pc + n, L, f x :: q), h) := by
  unfold ab_un at hs
  split at hs
  · cases hs; exact ⟨_, _, rfl, rfl⟩
  · cases hs
theorem ab_binL_inv {f : Int64 → Int64 → Value} (hs : ab_binL f pc n L st h = some r) : ∃ x y q, st = .long y :: .long x :: q ∧ r = ([], (pc + n, L, f x y :: q), h) := by
  unfold ab_binL at hs
  split at hs
  · cases hs; exact ⟨_, _, _, rfl, rfl⟩
  · cases hs
theorem ab_binD_inv {f : UInt64 → UInt64 → UInt64} (hs : ab_binD f pc n L st h = some r) : ∃ x y q, st = .double y :: .double x :: q ∧ r = ([vf_n64 (f x y)], (pc + n, L, .double (f x y) :: q), h) := by
  unfold ab_binD at hs
  split at hs
  · cases hs; exact ⟨_, _, _, rfl, rfl⟩
  · cases hs
theorem ab_getf_inv (hs : ab_getf pc n a b L st h = some r) : ∃ q z fs w, st = .ref q :: z ∧ ab_get h q = some (.inr (a, fs)) ∧ fs[b]? = some w ∧ r = ([], (pc + n, L, w :: z), h) := by
  unfold ab_getf at hs
  split at hs
  · split at hs
    · split at hs
      · rename_i h1 h2
        cases hs
        have h1 := Nat.eq_of_beq_eq_true h1
        subst h1
        exact ⟨_, _, _, _, rfl, by assumption, h2, rfl⟩
      · cases hs
    · cases hs
  · cases hs
theorem ab_putf_inv (hs : ab_putf pc n a b L st h = some r) : ∃ w q z fs, st = w :: .ref q :: z ∧ ab_get h q = some (.inr (a, fs)) ∧ b < fs.length ∧ ab_okv (ab_ty a b) w = true ∧ r = ([], (pc + n, L, z), ab_set h q (.inr (a, fs.set b w))) := by
  unfold ab_putf at hs
  split at hs
  · split at hs
    · split at hs
      · rename_i h1 h2 h3
        cases hs
        have h1 := Nat.eq_of_beq_eq_true h1
        subst h1
        exact ⟨_, _, _, _, rfl, by assumption, by simpa using h2, h3, rfl⟩
      · cases hs
    · cases hs
  · cases hs
theorem ab_ald_inv (hs : ab_ald pc n L st h = some r) : ∃ i q z k f, st = .int i :: .ref q :: z ∧ ab_get h q = some (.inl (.inl (k, f))) ∧ r = ([vp_in i k], (pc + n, L, .int (f i.toNatClampNeg) :: z), h) := by
  unfold ab_ald at hs
  split at hs
  · split at hs
    · cases hs; exact ⟨_, _, _, _, _, rfl, by assumption, rfl⟩
    · cases hs
  · cases hs
theorem ab_lald_inv (hs : ab_lald pc n L st h = some r) : ∃ i q z k f, st = .int i :: .ref q :: z ∧ ab_get h q = some (.inl (.inr (k, f))) ∧ r = ([vp_in i k], (pc + n, L, .long (f i.toNatClampNeg) :: z), h) := by
  unfold ab_lald at hs
  split at hs
  · split at hs
    · cases hs; exact ⟨_, _, _, _, _, rfl, by assumption, rfl⟩
    · cases hs
  · cases hs
theorem ab_ne0 {q : Nat} (h : Nat.beq (q / 4096) 0 = false) : ¬ q / 4096 = 0 := by
  intro e
  rw [e] at h
  cases h
theorem ab_ast_inv (hs : ab_ast pc n L st h = some r) : ∃ x i q z k f, st = .int x :: .int i :: .ref q :: z ∧ ab_get h q = some (.inl (.inl (k, f))) ∧ ¬ q / 4096 = 0 ∧ r = ([vp_in i k], (pc + n, L, z), ab_set h q (.inl (.inl (k, upd f i.toNatClampNeg x)))) := by
  unfold ab_ast at hs
  split at hs
  · split at hs
    · rename_i h1 h2
      cases hs; exact ⟨_, _, _, _, _, _, rfl, h1, ab_ne0 h2, rfl⟩
    · cases hs
  · cases hs
theorem ab_last_inv (hs : ab_last pc n L st h = some r) : ∃ x i q z k f, st = .long x :: .int i :: .ref q :: z ∧ ab_get h q = some (.inl (.inr (k, f))) ∧ ¬ q / 4096 = 0 ∧ r = ([vp_in i k], (pc + n, L, z), ab_set h q (.inl (.inr (k, vp_updL f i.toNatClampNeg x)))) := by
  unfold ab_last at hs
  split at hs
  · split at hs
    · rename_i h1 h2
      cases hs; exact ⟨_, _, _, _, _, _, rfl, h1, ab_ne0 h2, rfl⟩
    · cases hs
  · cases hs
theorem ab_alen_inv (hs : ab_alen pc n L st h = some r) : ∃ q z k f, st = .ref q :: z ∧ ab_get h q = some (.inl (.inl (k, f))) ∧ r = ([], (pc + n, L, .int (Int32.ofNat k) :: z), h) := by
  unfold ab_alen at hs
  split at hs
  · split at hs
    · cases hs; exact ⟨_, _, _, _, rfl, by assumption, rfl⟩
    · cases hs
  · cases hs
end INV
theorem ab_okv_ok {E : AE} {ty : FieldType} {w : Value} (h : ab_okv ty w = true) : narrow ty (ab_v E w) = ab_v E w ∧ fits ty (ab_v E w) = true := by
  cases ty <;> cases w <;> simp [ab_okv] at h <;> exact ⟨rfl, rfl⟩
theorem ab_R_arr {E : AE} {h : AH} {U : State} {H : Heap} (hR : ab_R E h U H) {q k : Nat} {f : Nat → Int32} (hg : ab_get h q = some (.inl (.inl (k, f)))) (hA : ArrOfT U E.cI .int) : ∃ cell : Cell, H[ab_adr E q]? = some cell ∧ U.isArrayOf cell .int ∧ cell.vm ≠ .unknown ∧ cell.slots.size = k ∧ ∀ j, j < k → cell.slots[j]? = some (.int (f j)) := by
  by_cases q0 : q / 4096 = 0
  · obtain ⟨n, f', e1, e2, e3⟩ := hR.2.2.2.2 q _ q0 hg
    cases e1
    exact e3
  · have h1 := hR.2.2.2.1 q _ q0 hg
    exact ⟨_, h1, hA k (fun j => .int (f j)), (fun z => by cases z), by show (arrV _ _ _).slots.size = _; rw [arrV_size], fun j hj => by show (arrV _ _ _).slots[_]? = _; rw [arrV_read _ _ hj]⟩
end
section
theorem ab_link_inv {own : String} {idx a b c : Nat} (h : ab_link own idx a b c = true) : ∃ C T N, vwCl[a]? = some (C, T, N) ∧ b < N ∧ Cond.fieldLink own idx C (T b).2.1 (T b).2.2.1 ∈ ab_W := by
  unfold ab_link at h
  split at h
  · rename_i C T N hc
    rw [Bool.and_eq_true] at h
    exact ⟨C, T, N, hc, by simpa using h.1, ab_at_mem h.2⟩
  · cases h
theorem ab_new_of {E : AE} {h : AH} {U : State} {H : Heap} (hR : ab_R E h U H) {q : Nat} {z : Nat × List Value} (hg : ab_get h q = some (.inr z)) : ¬ q / 4096 = 0 := by
  intro e
  obtain ⟨n, f, e1, -⟩ := hR.2.2.2.2 q _ e hg
  cases e1
theorem ab_new_ofL {E : AE} {h : AH} {U : State} {H : Heap} (hR : ab_R E h U H) {q : Nat} {z : Nat × (Nat → Int64)} (hg : ab_get h q = some (.inl (.inr z))) : ¬ q / 4096 = 0 := by
  intro e
  obtain ⟨n, f, e1, -⟩ := hR.2.2.2.2 q _ e hg
  cases e1
theorem ab_catmap (E : AE) (z : List Value) : ((z.map (ab_v E)).map fun v => v.category).sum = (z.map fun v => v.category).sum := by
  rw [List.map_map]
  congr 1
  exact List.map_congr_left fun v _ => ab_cat_v E v
theorem ab_cat8 {E : AE} {z : List Value} (h : ab_cat z = true) : ((z.map (ab_v E)).map fun v => v.category).sum ≤ 8 := by
  rw [ab_catmap]
  exact Nat.le_of_ble_eq_true h
set_option maxHeartbeats 4000000 in
set_option maxRecDepth 100000 in
/-- one instruction -/
theorem ab_step_ok {E : AE} {M : AM} {d : Nat} {x : AI} (hx : ab_ok M x = true) {L : AL} {st : List Value} {h : AH} {Ps : List Prop} {pc' : Nat} {L' : AL} {st' : List Value} {h1 : AH} (hs : ab_step x L st h = some (Ps, (pc', L', st'), h1)) (hp : ab_all Ps) {o : AR0} {h' : AH} {mc ms : Nat} (k : AR E M d pc' L' st' h1 o h' mc ms) : AR E M d x.1 L st h o h' mc ms := by
  obtain ⟨pc, i, n, a, b, c9, v⟩ := x
  intro p e R s m args below meth c H locs cells slots ls mcT msT C hR hS hl b1 b2 b3 b4
  obtain ⟨cx, cb, cml, cr, cown, cw, clk, cnm, cex, cK, cSF, cf, clo, cfi, cfj⟩ := id C
  unfold ab_ok at hx
  rw [Bool.and_eq_true, decide_eq_true_eq] at hx
  obtain ⟨hd, hk⟩ := hx
  dsimp only at hd ⊢
  have hmL : c.maxLocals = ls.size := cml.trans hl.1.symm
  cases i with
  | iconst q =>
    simp only [ab_okI, Bool.and_eq_true, decide_eq_true_eq] at hk
    obtain ⟨hn, hv⟩ := hk
    have hn := Nat.eq_of_beq_eq_true hn
    subst hn
    subst hv
    cases hs
    exact lv_iconst cx cb hd rfl (k p e R s m args below meth c H locs cells slots ls mcT msT C hR hS hl b1 b2 b3 b4)
  | bipush q =>
    simp only [ab_okI, Bool.and_eq_true, decide_eq_true_eq] at hk
    obtain ⟨hn, hv⟩ := hk
    have hn := Nat.eq_of_beq_eq_true hn
    subst hn
    subst hv
    cases hs
    exact lv_bipush cx cb hd rfl (k p e R s m args below meth c H locs cells slots ls mcT msT C hR hS hl b1 b2 b3 b4)
  | sipush q =>
    simp only [ab_okI, Bool.and_eq_true, decide_eq_true_eq] at hk
    obtain ⟨hn, hv⟩ := hk
    have hn := Nat.eq_of_beq_eq_true hn
    subst hn
    subst hv
    cases hs
    exact lv_sipush cx cb hd rfl (k p e R s m args below meth c H locs cells slots ls mcT msT C hR hS hl b1 b2 b3 b4)
  | lconst q =>
    simp only [ab_okI, Bool.and_eq_true, decide_eq_true_eq] at hk
    obtain ⟨hn, hv⟩ := hk
    have hn := Nat.eq_of_beq_eq_true hn
    subst hn
    subst hv
    cases hs
    exact lv_lconst cx cb hd rfl (k p e R s m args below meth c H locs cells slots ls mcT msT C hR hS hl b1 b2 b3 b4)
  | dconst q =>
    simp only [ab_okI, Bool.and_eq_true] at hk
    obtain ⟨hn, hv⟩ := hk
    have hn := Nat.eq_of_beq_eq_true hn
    subst hn
    cases hs
    match q, hd, hv with
    | 0, hd, hv =>
      have hv := of_decide_eq_true hv
      subst hv
      exact lv_dconst0 cx cb hd (k p e R s m args below meth c H locs cells slots ls mcT msT C hR hS hl b1 b2 b3 b4)
    | 1, hd, hv =>
      have hv := of_decide_eq_true hv
      subst hv
      exact lv_dconst1 cx cb hd (k p e R s m args below meth c H locs cells slots ls mcT msT C hR hS hl b1 b2 b3 b4)
  | ldc q =>
    simp only [ab_okI, Bool.and_eq_true] at hk
    obtain ⟨hn, hv⟩ := hk
    have hn := Nat.eq_of_beq_eq_true hn
    subst hn
    cases hs
    cases v with
    | int z => exact lv_ldc cx cb cown (cw _ (ab_at_mem hv)) hd (k p e R s m args below meth c H locs cells slots ls mcT msT C hR hS hl b1 b2 b3 b4)
    | _ => cases hv
  | ldc2_w q =>
    simp only [ab_okI, Bool.and_eq_true] at hk
    obtain ⟨hn, hv⟩ := hk
    have hn := Nat.eq_of_beq_eq_true hn
    subst hn
    cases hs
    cases v with
    | long z => exact lv_ldc2 cx cb cown (cw _ (ab_at_mem hv)) hd (k p e R s m args below meth c H locs cells slots ls mcT msT C hR hS hl b1 b2 b3 b4)
    | double z => exact lv_ldc2d cx cb cown (cw _ (ab_at_mem hv)) hd (k p e R s m args below meth c H locs cells slots ls mcT msT C hR hS hl b1 b2 b3 b4)
    | _ => cases hv
  | iload q =>
    simp only [ab_okI, Bool.and_eq_true] at hk
    obtain ⟨hn, he⟩ := hk
    have hn := Nat.eq_of_beq_eq_true hn
    subst hn
    have he := Nat.eq_of_beq_eq_true he
    subst he
    obtain ⟨v1, g1, g2, g3⟩ := ab_load_inv hs
    obtain ⟨z, rfl⟩ := ab_isT_0 g2
    cases g3
    exact lv_iload cx cb hd (ab_has_at hl g1) (k p e R s m args below meth c H locs cells slots ls mcT msT C hR hS hl b1 b2 b3 b4)
  | iload_n q =>
    simp only [ab_okI, Bool.and_eq_true] at hk
    obtain ⟨hn, he⟩ := hk
    have hn := Nat.eq_of_beq_eq_true hn
    subst hn
    have he := Nat.eq_of_beq_eq_true he
    obtain ⟨v1, g1, g2, g3⟩ := ab_load_inv hs
    obtain ⟨z, rfl⟩ := ab_isT_0 g2
    cases g3
    exact lv_iload_n cx cb hd he (ab_has_at hl g1) (k p e R s m args below meth c H locs cells slots ls mcT msT C hR hS hl b1 b2 b3 b4)
  | lload q =>
    simp only [ab_okI, Bool.and_eq_true] at hk
    obtain ⟨hn, he⟩ := hk
    have hn := Nat.eq_of_beq_eq_true hn
    subst hn
    have he := Nat.eq_of_beq_eq_true he
    subst he
    obtain ⟨v1, g1, g2, g3⟩ := ab_load_inv hs
    obtain ⟨z, rfl⟩ := ab_isT_1 g2
    cases g3
    exact lv_lload cx cb hd (ab_has_at hl g1) (k p e R s m args below meth c H locs cells slots ls mcT msT C hR hS hl b1 b2 b3 b4)
  | lload_n q =>
    simp only [ab_okI, Bool.and_eq_true] at hk
    obtain ⟨hn, he⟩ := hk
    have hn := Nat.eq_of_beq_eq_true hn
    subst hn
    have he := Nat.eq_of_beq_eq_true he
    obtain ⟨v1, g1, g2, g3⟩ := ab_load_inv hs
    obtain ⟨z, rfl⟩ := ab_isT_1 g2
    cases g3
    exact lv_lload_n cx cb hd he (ab_has_at hl g1) (k p e R s m args below meth c H locs cells slots ls mcT msT C hR hS hl b1 b2 b3 b4)
  | dload q =>
    simp only [ab_okI, Bool.and_eq_true] at hk
    obtain ⟨hn, he⟩ := hk
    have hn := Nat.eq_of_beq_eq_true hn
    subst hn
    have he := Nat.eq_of_beq_eq_true he
    subst he
    obtain ⟨v1, g1, g2, g3⟩ := ab_load_inv hs
    obtain ⟨z, rfl⟩ := ab_isT_2 g2
    cases g3
    exact lv_dload cx cb hd (ab_has_at hl g1) (k p e R s m args below meth c H locs cells slots ls mcT msT C hR hS hl b1 b2 b3 b4)
  | dload_n q =>
    simp only [ab_okI, Bool.and_eq_true] at hk
    obtain ⟨hn, he⟩ := hk
    have hn := Nat.eq_of_beq_eq_true hn
    subst hn
    have he := Nat.eq_of_beq_eq_true he
    obtain ⟨v1, g1, g2, g3⟩ := ab_load_inv hs
    obtain ⟨z, rfl⟩ := ab_isT_2 g2
    cases g3
    exact lv_dload_n cx cb hd he (ab_has_at hl g1) (k p e R s m args below meth c H locs cells slots ls mcT msT C hR hS hl b1 b2 b3 b4)
  | aload q =>
    simp only [ab_okI, Bool.and_eq_true] at hk
    obtain ⟨hn, he⟩ := hk
    have hn := Nat.eq_of_beq_eq_true hn
    subst hn
    have he := Nat.eq_of_beq_eq_true he
    subst he
    obtain ⟨v1, g1, g2, g3⟩ := ab_load_inv hs
    obtain ⟨z, rfl⟩ := ab_isT_3 g2
    cases g3
    exact lv_aload cx cb hd (ab_has_at hl g1) (k p e R s m args below meth c H locs cells slots ls mcT msT C hR hS hl b1 b2 b3 b4)
  | aload_n q =>
    simp only [ab_okI, Bool.and_eq_true] at hk
    obtain ⟨hn, he⟩ := hk
    have hn := Nat.eq_of_beq_eq_true hn
    subst hn
    have he := Nat.eq_of_beq_eq_true he
    obtain ⟨v1, g1, g2, g3⟩ := ab_load_inv hs
    obtain ⟨z, rfl⟩ := ab_isT_3 g2
    cases g3
    exact lv_aload_n cx cb hd he (ab_has_at hl g1) (k p e R s m args below meth c H locs cells slots ls mcT msT C hR hS hl b1 b2 b3 b4)
  | istore q =>
    simp only [ab_okI, Bool.and_eq_true] at hk
    obtain ⟨⟨hn, he⟩, hlt⟩ := hk
    have hn := Nat.eq_of_beq_eq_true hn
    subst hn
    have he := Nat.eq_of_beq_eq_true he
    subst he
    have hlt := Nat.le_of_ble_eq_true hlt
    obtain ⟨v1, r1, rfl, g2, g3⟩ := ab_store1_inv hs
    obtain ⟨z, rfl⟩ := ab_isT_0 g2
    cases g3
    exact lv_istore (lv' := _) cx cb hd hl hlt rfl (fun ls' hl' => k p e R s m args below meth c H locs cells slots ls' mcT msT C hR hS (ab_put1_has hl') b1 b2 b3 b4)
  | istore_n q =>
    simp only [ab_okI, Bool.and_eq_true] at hk
    obtain ⟨⟨hn, he⟩, hlt⟩ := hk
    have hn := Nat.eq_of_beq_eq_true hn
    subst hn
    have he := Nat.eq_of_beq_eq_true he
    have hlt := Nat.le_of_ble_eq_true hlt
    obtain ⟨v1, r1, rfl, g2, g3⟩ := ab_store1_inv hs
    obtain ⟨z, rfl⟩ := ab_isT_0 g2
    cases g3
    exact lv_istore_n (lv' := _) cx cb hd he hl hlt rfl (fun ls' hl' => k p e R s m args below meth c H locs cells slots ls' mcT msT C hR hS (ab_put1_has hl') b1 b2 b3 b4)
  | astore q =>
    simp only [ab_okI, Bool.and_eq_true] at hk
    obtain ⟨⟨hn, he⟩, hlt⟩ := hk
    have hn := Nat.eq_of_beq_eq_true hn
    subst hn
    have he := Nat.eq_of_beq_eq_true he
    subst he
    have hlt := Nat.le_of_ble_eq_true hlt
    obtain ⟨v1, r1, rfl, g2, g3⟩ := ab_store1_inv hs
    obtain ⟨z, rfl⟩ := ab_isT_3 g2
    cases g3
    exact lv_astore (lv' := _) cx cb hd hl hlt rfl (fun ls' hl' => k p e R s m args below meth c H locs cells slots ls' mcT msT C hR hS (ab_put1_has hl') b1 b2 b3 b4)
  | astore_n q =>
    simp only [ab_okI, Bool.and_eq_true] at hk
    obtain ⟨⟨hn, he⟩, hlt⟩ := hk
    have hn := Nat.eq_of_beq_eq_true hn
    subst hn
    have he := Nat.eq_of_beq_eq_true he
    have hlt := Nat.le_of_ble_eq_true hlt
    obtain ⟨v1, r1, rfl, g2, g3⟩ := ab_store1_inv hs
    obtain ⟨z, rfl⟩ := ab_isT_3 g2
    cases g3
    exact lv_astore_n (lv' := _) cx cb hd he hl hlt rfl (fun ls' hl' => k p e R s m args below meth c H locs cells slots ls' mcT msT C hR hS (ab_put1_has hl') b1 b2 b3 b4)
  | lstore q =>
    simp only [ab_okI, Bool.and_eq_true] at hk
    obtain ⟨⟨hn, he⟩, hlt⟩ := hk
    have hn := Nat.eq_of_beq_eq_true hn
    subst hn
    have he := Nat.eq_of_beq_eq_true he
    subst he
    have hlt := Nat.le_of_ble_eq_true hlt
    obtain ⟨v1, r1, rfl, g2, g3⟩ := ab_store2_inv hs
    obtain ⟨z, rfl⟩ := ab_isT_1 g2
    cases g3
    exact lv_lstore (lv' := _) cx cb hd hl hlt rfl (fun ls' hl' => k p e R s m args below meth c H locs cells slots ls' mcT msT C hR hS (ab_put2_has hl') b1 b2 b3 b4)
  | lstore_n q =>
    simp only [ab_okI, Bool.and_eq_true] at hk
    obtain ⟨⟨hn, he⟩, hlt⟩ := hk
    have hn := Nat.eq_of_beq_eq_true hn
    subst hn
    have he := Nat.eq_of_beq_eq_true he
    have hlt := Nat.le_of_ble_eq_true hlt
    obtain ⟨v1, r1, rfl, g2, g3⟩ := ab_store2_inv hs
    obtain ⟨z, rfl⟩ := ab_isT_1 g2
    cases g3
    exact lv_lstore_n (lv' := _) cx cb hd he hl hlt rfl (fun ls' hl' => k p e R s m args below meth c H locs cells slots ls' mcT msT C hR hS (ab_put2_has hl') b1 b2 b3 b4)
  | dstore q =>
    simp only [ab_okI, Bool.and_eq_true] at hk
    obtain ⟨⟨hn, he⟩, hlt⟩ := hk
    have hn := Nat.eq_of_beq_eq_true hn
    subst hn
    have he := Nat.eq_of_beq_eq_true he
    subst he
    have hlt := Nat.le_of_ble_eq_true hlt
    obtain ⟨v1, r1, rfl, g2, g3⟩ := ab_store2_inv hs
    obtain ⟨z, rfl⟩ := ab_isT_2 g2
    cases g3
    exact lv_dstore (lv' := _) cx cb hd hl hlt rfl (fun ls' hl' => k p e R s m args below meth c H locs cells slots ls' mcT msT C hR hS (ab_put2_has hl') b1 b2 b3 b4)
  | dstore_n q =>
    simp only [ab_okI, Bool.and_eq_true] at hk
    obtain ⟨⟨hn, he⟩, hlt⟩ := hk
    have hn := Nat.eq_of_beq_eq_true hn
    subst hn
    have he := Nat.eq_of_beq_eq_true he
    have hlt := Nat.le_of_ble_eq_true hlt
    obtain ⟨v1, r1, rfl, g2, g3⟩ := ab_store2_inv hs
    obtain ⟨z, rfl⟩ := ab_isT_2 g2
    cases g3
    exact lv_dstore_n (lv' := _) cx cb hd he hl hlt rfl (fun ls' hl' => k p e R s m args below meth c H locs cells slots ls' mcT msT C hR hS (ab_put2_has hl') b1 b2 b3 b4)
  | iinc q z =>
    simp only [ab_okI, Bool.and_eq_true, decide_eq_true_eq] at hk
    obtain ⟨⟨⟨hn, he⟩, hlt⟩, hv⟩ := hk
    have hn := Nat.eq_of_beq_eq_true hn
    subst hn
    have he := Nat.eq_of_beq_eq_true he
    subst he
    subst hv
    have hlt := Nat.le_of_ble_eq_true hlt
    simp only [ab_step] at hs
    split at hs
    · rename_i x1 k1 g1 g2
      cases hs
      cases g2
      have hm : (q, Value.int x1) ∈ ab_lvs E L := ab_lvs_mem.mpr ⟨.int x1, g1, rfl⟩
      obtain ⟨j, hj⟩ := List.getElem?_of_mem hm
      exact lv_iinc (k := j) (lv' := _) cx cb hd hl hj rfl hlt rfl (fun ls' hl' => k p e R s m args below meth c H locs cells slots ls' mcT msT C hR hS (ab_put1_has (v := .int (x1 + Int32.ofInt z)) hl') b1 b2 b3 b4)
    · cases hs
  | iadd =>
    have hn := Nat.eq_of_beq_eq_true (show Nat.beq n 1 = true from hk)
    subst hn
    obtain ⟨x1, y1, r1, rfl, g⟩ := ab_bin_inv hs
    cases g
    exact lv_iadd cx cb hd (k p e R s m args below meth c H locs cells slots ls mcT msT C hR hS hl b1 b2 b3 b4)
  | isub =>
    have hn := Nat.eq_of_beq_eq_true (show Nat.beq n 1 = true from hk)
    subst hn
    obtain ⟨x1, y1, r1, rfl, g⟩ := ab_bin_inv hs
    cases g
    exact lv_isub cx cb hd (k p e R s m args below meth c H locs cells slots ls mcT msT C hR hS hl b1 b2 b3 b4)
  | imul =>
    have hn := Nat.eq_of_beq_eq_true (show Nat.beq n 1 = true from hk)
    subst hn
    obtain ⟨x1, y1, r1, rfl, g⟩ := ab_bin_inv hs
    cases g
    exact lv_imul cx cb hd (k p e R s m args below meth c H locs cells slots ls mcT msT C hR hS hl b1 b2 b3 b4)
  | iand =>
    have hn := Nat.eq_of_beq_eq_true (show Nat.beq n 1 = true from hk)
    subst hn
    obtain ⟨x1, y1, r1, rfl, g⟩ := ab_bin_inv hs
    cases g
    exact lv_iand cx cb hd (k p e R s m args below meth c H locs cells slots ls mcT msT C hR hS hl b1 b2 b3 b4)
  | ior =>
    have hn := Nat.eq_of_beq_eq_true (show Nat.beq n 1 = true from hk)
    subst hn
    obtain ⟨x1, y1, r1, rfl, g⟩ := ab_bin_inv hs
    cases g
    exact lv_ior cx cb hd (k p e R s m args below meth c H locs cells slots ls mcT msT C hR hS hl b1 b2 b3 b4)
  | ishl =>
    have hn := Nat.eq_of_beq_eq_true (show Nat.beq n 1 = true from hk)
    subst hn
    obtain ⟨x1, y1, r1, rfl, g⟩ := ab_bin_inv hs
    cases g
    exact lv_ishl cx cb hd (k p e R s m args below meth c H locs cells slots ls mcT msT C hR hS hl b1 b2 b3 b4)
  | iushr =>
    have hn := Nat.eq_of_beq_eq_true (show Nat.beq n 1 = true from hk)
    subst hn
    obtain ⟨x1, y1, r1, rfl, g⟩ := ab_bin_inv hs
    cases g
    exact lv_iushr cx cb hd rfl (k p e R s m args below meth c H locs cells slots ls mcT msT C hR hS hl b1 b2 b3 b4)
  | idiv =>
    have hn := Nat.eq_of_beq_eq_true (show Nat.beq n 1 = true from hk)
    subst hn
    obtain ⟨x1, y1, r1, rfl, g⟩ := ab_binZ_inv hs
    cases g
    exact lv_idiv cx cb hd hp (k p e R s m args below meth c H locs cells slots ls mcT msT C hR hS hl b1 b2 b3 b4)
  | irem =>
    have hn := Nat.eq_of_beq_eq_true (show Nat.beq n 1 = true from hk)
    subst hn
    obtain ⟨x1, y1, r1, rfl, g⟩ := ab_binZ_inv hs
    cases g
    exact lv_irem cx cb hd hp (k p e R s m args below meth c H locs cells slots ls mcT msT C hR hS hl b1 b2 b3 b4)
  | ineg =>
    have hn := Nat.eq_of_beq_eq_true (show Nat.beq n 1 = true from hk)
    subst hn
    obtain ⟨x1, r1, rfl, g⟩ := ab_un_inv hs
    cases g
    exact lv_ineg cx cb hd (k p e R s m args below meth c H locs cells slots ls mcT msT C hR hS hl b1 b2 b3 b4)
  | i2l =>
    have hn := Nat.eq_of_beq_eq_true (show Nat.beq n 1 = true from hk)
    subst hn
    obtain ⟨x1, r1, rfl, g⟩ := ab_un_inv hs
    cases g
    exact lv_i2l cx cb hd rfl (k p e R s m args below meth c H locs cells slots ls mcT msT C hR hS hl b1 b2 b3 b4)
  | i2d =>
    have hn := Nat.eq_of_beq_eq_true (show Nat.beq n 1 = true from hk)
    subst hn
    obtain ⟨x1, r1, rfl, g⟩ := ab_un_inv hs
    cases g
    exact lv_i2d cx cb hd (k p e R s m args below meth c H locs cells slots ls mcT msT C hR hS hl b1 b2 b3 b4)
  | ladd =>
    have hn := Nat.eq_of_beq_eq_true (show Nat.beq n 1 = true from hk)
    subst hn
    obtain ⟨x1, y1, r1, rfl, g⟩ := ab_binL_inv hs
    cases g
    exact lv_ladd cx cb hd (k p e R s m args below meth c H locs cells slots ls mcT msT C hR hS hl b1 b2 b3 b4)
  | lsub =>
    have hn := Nat.eq_of_beq_eq_true (show Nat.beq n 1 = true from hk)
    subst hn
    obtain ⟨x1, y1, r1, rfl, g⟩ := ab_binL_inv hs
    cases g
    exact lv_lsub cx cb hd (k p e R s m args below meth c H locs cells slots ls mcT msT C hR hS hl b1 b2 b3 b4)
  | lmul =>
    have hn := Nat.eq_of_beq_eq_true (show Nat.beq n 1 = true from hk)
    subst hn
    obtain ⟨x1, y1, r1, rfl, g⟩ := ab_binL_inv hs
    cases g
    exact lv_lmul cx cb hd (k p e R s m args below meth c H locs cells slots ls mcT msT C hR hS hl b1 b2 b3 b4)
  | lor =>
    have hn := Nat.eq_of_beq_eq_true (show Nat.beq n 1 = true from hk)
    subst hn
    obtain ⟨x1, y1, r1, rfl, g⟩ := ab_binL_inv hs
    cases g
    exact lv_lor cx cb hd (k p e R s m args below meth c H locs cells slots ls mcT msT C hR hS hl b1 b2 b3 b4)
  | lcmp =>
    have hn := Nat.eq_of_beq_eq_true (show Nat.beq n 1 = true from hk)
    subst hn
    obtain ⟨x1, y1, r1, rfl, g⟩ := ab_binL_inv hs
    cases g
    exact W.lcmp cx cb hd (k p e R s m args below meth c H locs cells slots ls mcT msT C hR hS hl b1 b2 b3 b4)
  | dmul =>
    have hn := Nat.eq_of_beq_eq_true (show Nat.beq n 1 = true from hk)
    subst hn
    obtain ⟨x1, y1, r1, rfl, g⟩ := ab_binD_inv hs
    cases g
    exact lv_dmul cx cb hd hp (k p e R s m args below meth c H locs cells slots ls mcT msT C hR hS hl b1 b2 b3 b4)
  | dsub =>
    have hn := Nat.eq_of_beq_eq_true (show Nat.beq n 1 = true from hk)
    subst hn
    obtain ⟨x1, y1, r1, rfl, g⟩ := ab_binD_inv hs
    cases g
    exact lv_dsub cx cb hd hp (k p e R s m args below meth c H locs cells slots ls mcT msT C hR hS hl b1 b2 b3 b4)
  | ddiv =>
    have hn := Nat.eq_of_beq_eq_true (show Nat.beq n 1 = true from hk)
    subst hn
    obtain ⟨x1, y1, r1, rfl, g⟩ := ab_binD_inv hs
    cases g
    exact lv_ddiv cx cb hd hp (k p e R s m args below meth c H locs cells slots ls mcT msT C hR hS hl b1 b2 b3 b4)
  | lshl =>
    have hn := Nat.eq_of_beq_eq_true (show Nat.beq n 1 = true from hk)
    subst hn
    simp only [ab_step] at hs
    split at hs
    · cases hs
      exact lv_lshl cx cb hd rfl (k p e R s m args below meth c H locs cells slots ls mcT msT C hR hS hl b1 b2 b3 b4)
    · cases hs
  | dcmp op =>
    have hn := Nat.eq_of_beq_eq_true (show Nat.beq n 1 = true from hk)
    subst hn
    simp only [ab_step] at hs
    split at hs
    · cases hs
      exact lv_dcmp cx cb hd (k p e R s m args below meth c H locs cells slots ls mcT msT C hR hS hl b1 b2 b3 b4)
    · cases hs
  | d2l =>
    have hn := Nat.eq_of_beq_eq_true (show Nat.beq n 1 = true from hk)
    subst hn
    simp only [ab_step] at hs
    split at hs
    · cases hs
      exact lv_d2l cx cb hd (k p e R s m args below meth c H locs cells slots ls mcT msT C hR hS hl b1 b2 b3 b4)
    · cases hs
  | dup =>
    have hn := Nat.eq_of_beq_eq_true (show Nat.beq n 1 = true from hk)
    subst hn
    simp only [ab_step] at hs
    split at hs
    · rename_i v1 r1
      split at hs
      · rename_i hc1
        cases hs
        exact lv_dup cx cb hd ((ab_cat_v E v1).trans (Nat.eq_of_beq_eq_true hc1)) (k p e R s m args below meth c H locs cells slots ls mcT msT C hR hS hl b1 b2 b3 b4)
      · cases hs
    · cases hs
  | pop =>
    have hn := Nat.eq_of_beq_eq_true (show Nat.beq n 1 = true from hk)
    subst hn
    simp only [ab_step] at hs
    split at hs
    · rename_i v1 r1
      split at hs
      · rename_i hc1
        cases hs
        exact lv_pop cx cb hd ((ab_cat_v E v1).trans (Nat.eq_of_beq_eq_true hc1)) (k p e R s m args below meth c H locs cells slots ls mcT msT C hR hS hl b1 b2 b3 b4)
      · cases hs
    · cases hs
  | dup2 =>
    have hn := Nat.eq_of_beq_eq_true (show Nat.beq n 1 = true from hk)
    subst hn
    simp only [ab_step] at hs
    split at hs
    · rename_i v1 w1 r1
      split at hs
      · rename_i hc1 hc2
        cases hs
        exact lv_dup2_11 cx cb hd ((ab_cat_v E v1).trans (Nat.eq_of_beq_eq_true hc1)) ((ab_cat_v E w1).trans (Nat.eq_of_beq_eq_true hc2)) (k p e R s m args below meth c H locs cells slots ls mcT msT C hR hS hl b1 b2 b3 b4)
      · cases hs
    · cases hs
  | goto off =>
    simp only [ab_okI, Bool.and_eq_true, decide_eq_true_eq] at hk
    obtain ⟨hn, ht⟩ := hk
    have hn := Nat.eq_of_beq_eq_true hn
    subst hn
    cases hs
    exact lv_goto cx cb hd ht (k p e R s m args below meth c H locs cells slots ls mcT msT C hR hS hl b1 b2 b3 b4)
  | getfield idx =>
    simp only [ab_okI, Bool.and_eq_true] at hk
    obtain ⟨hn, hli⟩ := hk
    have hn := Nat.eq_of_beq_eq_true hn
    subst hn
    obtain ⟨Cn, T, N, hcl, hbN, hlw⟩ := ab_link_inv hli
    obtain ⟨hin, -, -, hty, hnm, hCT⟩ := ab_cls a Cn T N hcl
    obtain ⟨q, z, fs, w, rfl, hg, hw, he⟩ := ab_getf_inv hs
    cases he
    have q0 := ab_new_of hR hg
    have ha := hR.2.2.2.1 q _ q0 hg
    exact va_get cx cb cw hin cown cK (ab_P1 ha) 0 rfl hcl b hbN (cw _ hlw) (fun x hx => by rw [← hCT b hbN]; exact hx) (v := ab_v E w) (by rw [List.getElem?_map, hw]; rfl) hd (k p e R s m args below meth c H locs cells slots ls mcT msT C hR hS hl b1 b2 b3 b4)
  | putfield idx =>
    simp only [ab_okI, Bool.and_eq_true] at hk
    obtain ⟨⟨hn, hli⟩, hfi⟩ := hk
    have hn := Nat.eq_of_beq_eq_true hn
    subst hn
    obtain ⟨Cn, T, N, hcl, hbN, hlw⟩ := ab_link_inv hli
    obtain ⟨hin, -, -, hty, hnm, hCT⟩ := ab_cls a Cn T N hcl
    obtain ⟨w, q, z, fs, rfl, hg, hlb, hov, he⟩ := ab_putf_inv hs
    cases he
    have q0 := ab_new_of hR hg
    have ha := hR.2.2.2.1 q _ q0 hg
    have hov := ab_okv_ok (E := E) hov
    refine am_put cx cb cw hin (ab_ty a) hty hnm cown cK hS (ab_ge q0) ha hcl b hbN (hCT b hbN) (cw _ hlw) (fun hf => ?_) hov.1 hov.2 (by simpa using hlb) hd (fun H1 locs1 g1 g2 g3 g4 => k p e R s m args below meth c H1 locs1 cells slots ls mcT msT C (ab_R_set hR q0 hg (by show va_at _ _ (_, .inr (a, (fs.set b w).map (ab_v E))) H1; rw [List.map_set]; exact g1) g2 g3) g4 hl b1 b2 b3 b4)
    unfold ab_fin at hfi
    rw [hcl] at hfi
    dsimp only at hfi
    rw [if_pos hf, Bool.and_eq_true, decide_eq_true_eq, decide_eq_true_eq] at hfi
    exact ⟨cnm.trans hfi.1, hfi.2⟩
  | getstatic idx =>
    simp only [ab_okI, Bool.and_eq_true] at hk
    obtain ⟨hn, hst⟩ := hk
    have hn := Nat.eq_of_beq_eq_true hn
    subst hn
    cases hs
    split at hst
    · rename_i Cn f dd r hq
      simp only [Bool.and_eq_true, decide_eq_true_eq] at hst
      obtain ⟨⟨rfl, hra⟩, hlw⟩ := hst
      have hra := Nat.eq_of_beq_eq_true hra
      subst hra
      exact va_gets cx cb (cSF.1 _ (List.mem_of_getElem? hq)) hS cown (cw _ (ab_at_mem hlw)) (fun _ h => h) hd (k p e R s m args below meth c H locs cells slots ls mcT msT C hR hS hl b1 b2 b3 b4)
    · cases hst
  | iaload =>
    have hn := Nat.eq_of_beq_eq_true (show Nat.beq n 1 = true from hk)
    subst hn
    obtain ⟨i1, q, z, k1, f, rfl, hg, he⟩ := ab_ald_inv hs
    cases he
    have hp : vp_in i1 k1 := hp
    obtain ⟨cell, e1, e2, e3, e4, e5⟩ := ab_R_arr hR hg (cK.2 0 _ rfl).1
    have hlt : i1.toNatClampNeg < k1 := Nat.not_le.mp fun q => hp (Or.inr q)
    exact W.iald (v := .int (f i1.toNatClampNeg)) cx cb e1 e2 e3 (by rw [e4]; exact hp) (e5 _ hlt) rfl rfl hd (k p e R s m args below meth c H locs cells slots ls mcT msT C hR hS hl b1 b2 b3 b4)
  | laload =>
    have hn := Nat.eq_of_beq_eq_true (show Nat.beq n 1 = true from hk)
    subst hn
    obtain ⟨i1, q, z, k1, f, rfl, hg, he⟩ := ab_lald_inv hs
    cases he
    have hp : vp_in i1 k1 := hp
    have q0 := ab_new_ofL hR hg
    have ha := hR.2.2.2.1 q _ q0 hg
    exact va_lald cx cb cK (ab_P1 ha) 0 1 rfl rfl hp hd (k p e R s m args below meth c H locs cells slots ls mcT msT C hR hS hl b1 b2 b3 b4)
  | iastore =>
    have hn := Nat.eq_of_beq_eq_true (show Nat.beq n 1 = true from hk)
    subst hn
    obtain ⟨x1, i1, q, z, k1, f, rfl, hg, q0, he⟩ := ab_ast_inv hs
    cases he
    have hp : vp_in i1 k1 := hp
    have ha := hR.2.2.2.1 q _ q0 hg
    exact am_iast cx cb hS (cK.2 0 _ rfl).1 (ab_ge q0) ha hp hd (fun H1 locs1 g1 g2 g3 g4 => k p e R s m args below meth c H1 locs1 cells slots ls mcT msT C (ab_R_set hR q0 hg g1 g2 g3) g4 hl b1 b2 b3 b4)
  | lastore =>
    have hn := Nat.eq_of_beq_eq_true (show Nat.beq n 1 = true from hk)
    subst hn
    obtain ⟨x1, i1, q, z, k1, f, rfl, hg, q0, he⟩ := ab_last_inv hs
    cases he
    have hp : vp_in i1 k1 := hp
    have ha := hR.2.2.2.1 q _ q0 hg
    exact am_last cx cb hS (cK.2 1 _ rfl).1 (ab_ge q0) ha hp hd (fun H1 locs1 g1 g2 g3 g4 => k p e R s m args below meth c H1 locs1 cells slots ls mcT msT C (ab_R_set hR q0 hg g1 g2 g3) g4 hl b1 b2 b3 b4)
  | arraylength =>
    have hn := Nat.eq_of_beq_eq_true (show Nat.beq n 1 = true from hk)
    subst hn
    obtain ⟨q, z, k1, f, rfl, hg, he⟩ := ab_alen_inv hs
    cases he
    obtain ⟨cell, e1, e2, e3, e4, e5⟩ := ab_R_arr hR hg (cK.2 0 _ rfl).1
    exact W.alen (n := Int32.ofNat k1) cx cb e1 e2 (by rw [e4]) rfl rfl hd (k p e R s m args below meth c H locs cells slots ls mcT msT C hR hS hl b1 b2 b3 b4)
  | invokestatic idx =>
    simp only [ab_okI, Bool.and_eq_true] at hk
    obtain ⟨⟨hn, hj⟩, hli⟩ := hk
    have hn := Nat.eq_of_beq_eq_true hn
    subst hn
    change ab_jdk pc 3 a L st h = _ at hs
    match a, hj, hli, hs with
    | 1, hj, hli, hs =>
      simp only [ab_jdk] at hs
      split at hs
      · split at hs
        · rename_i hcat
          cases hs
          have hcat := ab_cat8 (E := E) hcat
          exact va_mmax cx cb hmL cown (cw _ (ab_at_mem hli)) (cw _ (ab_ats_mem hj _ (by simp))) (cw _ (ab_ats_mem hj _ (by simp))) (cw _ (ab_ats_mem hj _ (by simp))) (by omega) (by omega) (by omega) (by omega) hd (k p e R s m args below meth c H locs cells slots ls mcT msT C hR hS hl b1 b2 b3 b4)
        · cases hs
      · cases hs
    | 2, hj, hli, hs =>
      simp only [ab_jdk] at hs
      split at hs
      · split at hs
        · rename_i hcat
          cases hs
          have hcat := ab_cat8 (E := E) hcat
          exact va_mmin cx cb hmL cown (cw _ (ab_at_mem hli)) (cw _ (ab_ats_mem hj _ (by simp))) (cw _ (ab_ats_mem hj _ (by simp))) (cw _ (ab_ats_mem hj _ (by simp))) (by omega) (by omega) (by omega) (by omega) hd (k p e R s m args below meth c H locs cells slots ls mcT msT C hR hS hl b1 b2 b3 b4)
        · cases hs
      · cases hs
    | 3, hj, hli, hs =>
      simp only [ab_jdk] at hs
      split at hs
      · split at hs
        · rename_i hcat
          cases hs
          have hcat := ab_cat8 (E := E) hcat
          exact va_mabs cx cb hmL cown (cw _ (ab_at_mem hli)) (cw _ (ab_ats_mem hj _ (by simp))) (cw _ (ab_ats_mem hj _ (by simp))) (cw _ (ab_ats_mem hj _ (by simp))) (by omega) (by omega) (by omega) (by omega) hd (k p e R s m args below meth c H locs cells slots ls mcT msT C hR hS hl b1 b2 b3 b4)
        · cases hs
      · cases hs
    | 4, hj, hli, hs =>
      simp only [ab_jdk] at hs
      split at hs
      · split at hs
        · rename_i hcat hg hg2 q0 q1
          cases hs
          have hcat := ab_cat8 (E := E) hcat
          obtain ⟨p1, p2, p3, p4, p5⟩ := hp
          have q0 := ab_ne0 q0
          have q1 := ab_ne0 q1
          have ha := hR.2.2.2.1 _ _ q0 hg
          have ha2 := hR.2.2.2.1 _ _ q1 hg2
          have hw9 : nativeFrameWords "java/lang/System" "arraycopy" 5 ≤ 20 := by decide
          exact am_copyi cx cb hmL cown (cw _ (ab_at_mem hli)) (cw _ (ab_ats_mem hj _ (by simp))) (cw _ (ab_ats_mem hj _ (by simp))) (cw _ (ab_ats_mem hj _ (by simp))) hS (cK.2 0 _ rfl).1 (ab_ge q1) ha ha2 p1 p2 p3 p4 p5 (by omega) (by omega) hd (fun H1 locs1 g1 g2 g3 g4 => k p e R s m args below meth c H1 locs1 cells slots ls mcT msT C (ab_R_set hR q1 hg2 g1 g2 g3) g4 hl b1 b2 b3 b4)
        · cases hs
      · cases hs
    | 6, hj, hli, hs =>
      simp only [ab_jdk] at hs
      split at hs
      · split at hs
        · rename_i hcat
          cases hs
          have hcat := ab_cat8 (E := E) hcat
          exact vn_d2l cx cb hmL cown (cw _ (ab_at_mem hli)) (cw _ (ab_ats_mem hj _ (by simp))) (cw _ (ab_ats_mem hj _ (by simp))) (cw _ (ab_ats_mem hj _ (by simp))) (by omega) (by omega) hd (k p e R s m args below meth c H locs cells slots ls mcT msT C hR hS hl b1 b2 b3 b4)
        · cases hs
      · cases hs
    | 0, hj, hli, hs => cases hj
    | 5, hj, hli, hs => cases hli
    | a + 7, hj, hli, hs => cases hj
  | invokespecial idx =>
    simp only [ab_okI, Bool.and_eq_true] at hk
    obtain ⟨⟨⟨hn, ha⟩, hj⟩, hli⟩ := hk
    have hn := Nat.eq_of_beq_eq_true hn
    subst hn
    simp only [ab_step] at hs
    split at hs
    · split at hs
      · rename_i hcat
        cases hs
        have hcat := ab_cat8 (E := E) hcat
        exact W.objInit cx cb cown (cw _ (ab_at_mem hli)) (cw _ (ab_ats_mem hj _ (by simp))) (cw _ (ab_ats_mem hj _ (by simp))) rfl hmL.symm rfl hd (by omega) (by show 2 * 0 + _ + 12 ≤ _; omega) (k p e R s m args below meth c H locs cells slots ls mcT msT C hR hS hl b1 b2 b3 b4)
      · cases hs
    · cases hs
  | _ => cases hs
/-- a straight stretch -/
theorem ab_run_ok {E : AE} {M : AM} {d : Nat} {o : AR0} {h' : AH} {mc ms : Nat} {pc' : Nat} {L' : AL} {st' : List Value} {h1 : AH} (k : AR E M d pc' L' st' h1 o h' mc ms) : ∀ {xs : List AI} (_ : ab_oks M xs = true) {pc : Nat} {L : AL} {st : List Value} {h : AH} {Ps : List Prop} (_ : ab_run xs pc L st h = some (Ps, (pc', L', st'), h1)) (_ : ab_all Ps), AR E M d pc L st h o h' mc ms
  | [], _, pc, L, st, h, Ps, hs, _ => by
    cases hs
    exact k
  | x :: xs, hx, pc, L, st, h, Ps, hs, hp => by
    unfold ab_oks at hx
    rw [List.all_cons, Bool.and_eq_true] at hx
    unfold ab_run at hs
    split at hs
    · rename_i hpc
      split at hs
      · rename_i P pc2 L2 st2 h2 hs1
        split at hs
        · rename_i Q r hs2
          cases hs
          obtain ⟨p1, p2⟩ := ab_all_app hp
          have hpc := Nat.eq_of_beq_eq_true hpc
          subst hpc
          exact ab_step_ok hx.1 hs1 p1 (ab_run_ok k hx.2 hs2 p2)
        · cases hs
      · cases hs
    · cases hs
end
section
section BR
variable {E : AE} {M : AM} {d pc : Nat} {L : AL} {st : List Value} {h : AH} {o : AR0} {h' : AH} {mc ms : Nat}
theorem AR.eq {off : Int} {tgt : Nat} {x : Int32} (hd : decode M.bytes pc = .ok (.ifCond .eq off, 3)) (ht : (pc : Int) + off = (tgt : Int)) (kt : x = 0 → AR E M d tgt L st h o h' mc ms) (kf : ¬ x = 0 → AR E M d (pc + 3) L st h o h' mc ms) : AR E M d pc L (.int x :: st) h o h' mc ms := by
  intro p e R s m args below meth c H locs cells slots ls mcT msT C hR hS hl b1 b2 b3 b4
  exact lv_if_eq C.1 C.2.1 hd ht (fun z => kt z p e R s m args below meth c H locs cells slots ls mcT msT C hR hS hl b1 b2 b3 b4) (fun z => kf z p e R s m args below meth c H locs cells slots ls mcT msT C hR hS hl b1 b2 b3 b4)
theorem AR.eqt {off : Int} {tgt : Nat} {x : Int32} (hd : decode M.bytes pc = .ok (.ifCond .eq off, 3)) (ht : (pc : Int) + off = (tgt : Int)) (hc : x = 0) (kt : AR E M d tgt L st h o h' mc ms) : AR E M d pc L (.int x :: st) h o h' mc ms := AR.eq hd ht (fun _ => kt) (fun z => absurd hc (by exact z))
theorem AR.eqf {off : Int} {tgt : Nat} {x : Int32} (hd : decode M.bytes pc = .ok (.ifCond .eq off, 3)) (ht : (pc : Int) + off = (tgt : Int)) (hc : ¬ x = 0) (kf : AR E M d (pc + 3) L st h o h' mc ms) : AR E M d pc L (.int x :: st) h o h' mc ms := AR.eq hd ht (fun z => absurd z (by exact hc)) (fun _ => kf)
theorem AR.eq2 {off : Int} {tgt : Nat} {x y : Int32} (hd : decode M.bytes pc = .ok (.if_icmp .eq off, 3)) (ht : (pc : Int) + off = (tgt : Int)) (kt : x = y → AR E M d tgt L st h o h' mc ms) (kf : ¬ x = y → AR E M d (pc + 3) L st h o h' mc ms) : AR E M d pc L (.int y :: .int x :: st) h o h' mc ms := by
  intro p e R s m args below meth c H locs cells slots ls mcT msT C hR hS hl b1 b2 b3 b4
  exact lv_icmp_eq C.1 C.2.1 hd ht (fun z => kt z p e R s m args below meth c H locs cells slots ls mcT msT C hR hS hl b1 b2 b3 b4) (fun z => kf z p e R s m args below meth c H locs cells slots ls mcT msT C hR hS hl b1 b2 b3 b4)
theorem AR.eq2t {off : Int} {tgt : Nat} {x y : Int32} (hd : decode M.bytes pc = .ok (.if_icmp .eq off, 3)) (ht : (pc : Int) + off = (tgt : Int)) (hc : x = y) (kt : AR E M d tgt L st h o h' mc ms) : AR E M d pc L (.int y :: .int x :: st) h o h' mc ms := AR.eq2 hd ht (fun _ => kt) (fun z => absurd hc (by exact z))
theorem AR.eq2f {off : Int} {tgt : Nat} {x y : Int32} (hd : decode M.bytes pc = .ok (.if_icmp .eq off, 3)) (ht : (pc : Int) + off = (tgt : Int)) (hc : ¬ x = y) (kf : AR E M d (pc + 3) L st h o h' mc ms) : AR E M d pc L (.int y :: .int x :: st) h o h' mc ms := AR.eq2 hd ht (fun z => absurd z (by exact hc)) (fun _ => kf)
theorem AR.ne {off : Int} {tgt : Nat} {x : Int32} (hd : decode M.bytes pc = .ok (.ifCond .ne off, 3)) (ht : (pc : Int) + off = (tgt : Int)) (kt : ¬ x = 0 → AR E M d tgt L st h o h' mc ms) (kf : x = 0 → AR E M d (pc + 3) L st h o h' mc ms) : AR E M d pc L (.int x :: st) h o h' mc ms := by
  intro p e R s m args below meth c H locs cells slots ls mcT msT C hR hS hl b1 b2 b3 b4
  exact lv_if_ne C.1 C.2.1 hd ht (fun z => kt z p e R s m args below meth c H locs cells slots ls mcT msT C hR hS hl b1 b2 b3 b4) (fun z => kf z p e R s m args below meth c H locs cells slots ls mcT msT C hR hS hl b1 b2 b3 b4)
theorem AR.net {off : Int} {tgt : Nat} {x : Int32} (hd : decode M.bytes pc = .ok (.ifCond .ne off, 3)) (ht : (pc : Int) + off = (tgt : Int)) (hc : ¬ x = 0) (kt : AR E M d tgt L st h o h' mc ms) : AR E M d pc L (.int x :: st) h o h' mc ms := AR.ne hd ht (fun _ => kt) (fun z => absurd hc (by exact fun q => q z))
theorem AR.nef {off : Int} {tgt : Nat} {x : Int32} (hd : decode M.bytes pc = .ok (.ifCond .ne off, 3)) (ht : (pc : Int) + off = (tgt : Int)) (hc : x = 0) (kf : AR E M d (pc + 3) L st h o h' mc ms) : AR E M d pc L (.int x :: st) h o h' mc ms := AR.ne hd ht (fun z => absurd z (by exact fun q => q hc)) (fun _ => kf)
theorem AR.ne2 {off : Int} {tgt : Nat} {x y : Int32} (hd : decode M.bytes pc = .ok (.if_icmp .ne off, 3)) (ht : (pc : Int) + off = (tgt : Int)) (kt : ¬ x = y → AR E M d tgt L st h o h' mc ms) (kf : x = y → AR E M d (pc + 3) L st h o h' mc ms) : AR E M d pc L (.int y :: .int x :: st) h o h' mc ms := by
  intro p e R s m args below meth c H locs cells slots ls mcT msT C hR hS hl b1 b2 b3 b4
  exact lv_icmp_ne C.1 C.2.1 hd ht (fun z => kt z p e R s m args below meth c H locs cells slots ls mcT msT C hR hS hl b1 b2 b3 b4) (fun z => kf z p e R s m args below meth c H locs cells slots ls mcT msT C hR hS hl b1 b2 b3 b4)
theorem AR.ne2t {off : Int} {tgt : Nat} {x y : Int32} (hd : decode M.bytes pc = .ok (.if_icmp .ne off, 3)) (ht : (pc : Int) + off = (tgt : Int)) (hc : ¬ x = y) (kt : AR E M d tgt L st h o h' mc ms) : AR E M d pc L (.int y :: .int x :: st) h o h' mc ms := AR.ne2 hd ht (fun _ => kt) (fun z => absurd hc (by exact fun q => q z))
theorem AR.ne2f {off : Int} {tgt : Nat} {x y : Int32} (hd : decode M.bytes pc = .ok (.if_icmp .ne off, 3)) (ht : (pc : Int) + off = (tgt : Int)) (hc : x = y) (kf : AR E M d (pc + 3) L st h o h' mc ms) : AR E M d pc L (.int y :: .int x :: st) h o h' mc ms := AR.ne2 hd ht (fun z => absurd z (by exact fun q => q hc)) (fun _ => kf)
theorem AR.lt {off : Int} {tgt : Nat} {x : Int32} (hd : decode M.bytes pc = .ok (.ifCond .lt off, 3)) (ht : (pc : Int) + off = (tgt : Int)) (kt : x < 0 → AR E M d tgt L st h o h' mc ms) (kf : ¬ x < 0 → AR E M d (pc + 3) L st h o h' mc ms) : AR E M d pc L (.int x :: st) h o h' mc ms := by
  intro p e R s m args below meth c H locs cells slots ls mcT msT C hR hS hl b1 b2 b3 b4
  exact lv_if_lt C.1 C.2.1 hd ht (fun z => kt z p e R s m args below meth c H locs cells slots ls mcT msT C hR hS hl b1 b2 b3 b4) (fun z => kf z p e R s m args below meth c H locs cells slots ls mcT msT C hR hS hl b1 b2 b3 b4)
theorem AR.ltt {off : Int} {tgt : Nat} {x : Int32} (hd : decode M.bytes pc = .ok (.ifCond .lt off, 3)) (ht : (pc : Int) + off = (tgt : Int)) (hc : x < 0) (kt : AR E M d tgt L st h o h' mc ms) : AR E M d pc L (.int x :: st) h o h' mc ms := AR.lt hd ht (fun _ => kt) (fun z => absurd hc (by exact z))
theorem AR.ltf {off : Int} {tgt : Nat} {x : Int32} (hd : decode M.bytes pc = .ok (.ifCond .lt off, 3)) (ht : (pc : Int) + off = (tgt : Int)) (hc : ¬ x < 0) (kf : AR E M d (pc + 3) L st h o h' mc ms) : AR E M d pc L (.int x :: st) h o h' mc ms := AR.lt hd ht (fun z => absurd z (by exact hc)) (fun _ => kf)
theorem AR.lt2 {off : Int} {tgt : Nat} {x y : Int32} (hd : decode M.bytes pc = .ok (.if_icmp .lt off, 3)) (ht : (pc : Int) + off = (tgt : Int)) (kt : x < y → AR E M d tgt L st h o h' mc ms) (kf : ¬ x < y → AR E M d (pc + 3) L st h o h' mc ms) : AR E M d pc L (.int y :: .int x :: st) h o h' mc ms := by
  intro p e R s m args below meth c H locs cells slots ls mcT msT C hR hS hl b1 b2 b3 b4
  exact lv_icmp_lt C.1 C.2.1 hd ht (fun z => kt z p e R s m args below meth c H locs cells slots ls mcT msT C hR hS hl b1 b2 b3 b4) (fun z => kf z p e R s m args below meth c H locs cells slots ls mcT msT C hR hS hl b1 b2 b3 b4)
theorem AR.lt2t {off : Int} {tgt : Nat} {x y : Int32} (hd : decode M.bytes pc = .ok (.if_icmp .lt off, 3)) (ht : (pc : Int) + off = (tgt : Int)) (hc : x < y) (kt : AR E M d tgt L st h o h' mc ms) : AR E M d pc L (.int y :: .int x :: st) h o h' mc ms := AR.lt2 hd ht (fun _ => kt) (fun z => absurd hc (by exact z))
theorem AR.lt2f {off : Int} {tgt : Nat} {x y : Int32} (hd : decode M.bytes pc = .ok (.if_icmp .lt off, 3)) (ht : (pc : Int) + off = (tgt : Int)) (hc : ¬ x < y) (kf : AR E M d (pc + 3) L st h o h' mc ms) : AR E M d pc L (.int y :: .int x :: st) h o h' mc ms := AR.lt2 hd ht (fun z => absurd z (by exact hc)) (fun _ => kf)
theorem AR.ge {off : Int} {tgt : Nat} {x : Int32} (hd : decode M.bytes pc = .ok (.ifCond .ge off, 3)) (ht : (pc : Int) + off = (tgt : Int)) (kt : 0 ≤ x → AR E M d tgt L st h o h' mc ms) (kf : ¬ 0 ≤ x → AR E M d (pc + 3) L st h o h' mc ms) : AR E M d pc L (.int x :: st) h o h' mc ms := by
  intro p e R s m args below meth c H locs cells slots ls mcT msT C hR hS hl b1 b2 b3 b4
  exact lv_if_ge C.1 C.2.1 hd ht (fun z => kt z p e R s m args below meth c H locs cells slots ls mcT msT C hR hS hl b1 b2 b3 b4) (fun z => kf z p e R s m args below meth c H locs cells slots ls mcT msT C hR hS hl b1 b2 b3 b4)
theorem AR.get {off : Int} {tgt : Nat} {x : Int32} (hd : decode M.bytes pc = .ok (.ifCond .ge off, 3)) (ht : (pc : Int) + off = (tgt : Int)) (hc : 0 ≤ x) (kt : AR E M d tgt L st h o h' mc ms) : AR E M d pc L (.int x :: st) h o h' mc ms := AR.ge hd ht (fun _ => kt) (fun z => absurd hc (by exact z))
theorem AR.gef {off : Int} {tgt : Nat} {x : Int32} (hd : decode M.bytes pc = .ok (.ifCond .ge off, 3)) (ht : (pc : Int) + off = (tgt : Int)) (hc : ¬ 0 ≤ x) (kf : AR E M d (pc + 3) L st h o h' mc ms) : AR E M d pc L (.int x :: st) h o h' mc ms := AR.ge hd ht (fun z => absurd z (by exact hc)) (fun _ => kf)
theorem AR.ge2 {off : Int} {tgt : Nat} {x y : Int32} (hd : decode M.bytes pc = .ok (.if_icmp .ge off, 3)) (ht : (pc : Int) + off = (tgt : Int)) (kt : y ≤ x → AR E M d tgt L st h o h' mc ms) (kf : ¬ y ≤ x → AR E M d (pc + 3) L st h o h' mc ms) : AR E M d pc L (.int y :: .int x :: st) h o h' mc ms := by
  intro p e R s m args below meth c H locs cells slots ls mcT msT C hR hS hl b1 b2 b3 b4
  exact lv_icmp_ge C.1 C.2.1 hd ht (fun z => kt z p e R s m args below meth c H locs cells slots ls mcT msT C hR hS hl b1 b2 b3 b4) (fun z => kf z p e R s m args below meth c H locs cells slots ls mcT msT C hR hS hl b1 b2 b3 b4)
theorem AR.ge2t {off : Int} {tgt : Nat} {x y : Int32} (hd : decode M.bytes pc = .ok (.if_icmp .ge off, 3)) (ht : (pc : Int) + off = (tgt : Int)) (hc : y ≤ x) (kt : AR E M d tgt L st h o h' mc ms) : AR E M d pc L (.int y :: .int x :: st) h o h' mc ms := AR.ge2 hd ht (fun _ => kt) (fun z => absurd hc (by exact z))
theorem AR.ge2f {off : Int} {tgt : Nat} {x y : Int32} (hd : decode M.bytes pc = .ok (.if_icmp .ge off, 3)) (ht : (pc : Int) + off = (tgt : Int)) (hc : ¬ y ≤ x) (kf : AR E M d (pc + 3) L st h o h' mc ms) : AR E M d pc L (.int y :: .int x :: st) h o h' mc ms := AR.ge2 hd ht (fun z => absurd z (by exact hc)) (fun _ => kf)
theorem AR.gt {off : Int} {tgt : Nat} {x : Int32} (hd : decode M.bytes pc = .ok (.ifCond .gt off, 3)) (ht : (pc : Int) + off = (tgt : Int)) (kt : 0 < x → AR E M d tgt L st h o h' mc ms) (kf : ¬ 0 < x → AR E M d (pc + 3) L st h o h' mc ms) : AR E M d pc L (.int x :: st) h o h' mc ms := by
  intro p e R s m args below meth c H locs cells slots ls mcT msT C hR hS hl b1 b2 b3 b4
  exact lv_if_gt C.1 C.2.1 hd ht (fun z => kt z p e R s m args below meth c H locs cells slots ls mcT msT C hR hS hl b1 b2 b3 b4) (fun z => kf z p e R s m args below meth c H locs cells slots ls mcT msT C hR hS hl b1 b2 b3 b4)
theorem AR.gtt {off : Int} {tgt : Nat} {x : Int32} (hd : decode M.bytes pc = .ok (.ifCond .gt off, 3)) (ht : (pc : Int) + off = (tgt : Int)) (hc : 0 < x) (kt : AR E M d tgt L st h o h' mc ms) : AR E M d pc L (.int x :: st) h o h' mc ms := AR.gt hd ht (fun _ => kt) (fun z => absurd hc (by exact z))
theorem AR.gtf {off : Int} {tgt : Nat} {x : Int32} (hd : decode M.bytes pc = .ok (.ifCond .gt off, 3)) (ht : (pc : Int) + off = (tgt : Int)) (hc : ¬ 0 < x) (kf : AR E M d (pc + 3) L st h o h' mc ms) : AR E M d pc L (.int x :: st) h o h' mc ms := AR.gt hd ht (fun z => absurd z (by exact hc)) (fun _ => kf)
theorem AR.gt2 {off : Int} {tgt : Nat} {x y : Int32} (hd : decode M.bytes pc = .ok (.if_icmp .gt off, 3)) (ht : (pc : Int) + off = (tgt : Int)) (kt : y < x → AR E M d tgt L st h o h' mc ms) (kf : ¬ y < x → AR E M d (pc + 3) L st h o h' mc ms) : AR E M d pc L (.int y :: .int x :: st) h o h' mc ms := by
  intro p e R s m args below meth c H locs cells slots ls mcT msT C hR hS hl b1 b2 b3 b4
  exact lv_icmp_gt C.1 C.2.1 hd ht (fun z => kt z p e R s m args below meth c H locs cells slots ls mcT msT C hR hS hl b1 b2 b3 b4) (fun z => kf z p e R s m args below meth c H locs cells slots ls mcT msT C hR hS hl b1 b2 b3 b4)
theorem AR.gt2t {off : Int} {tgt : Nat} {x y : Int32} (hd : decode M.bytes pc = .ok (.if_icmp .gt off, 3)) (ht : (pc : Int) + off = (tgt : Int)) (hc : y < x) (kt : AR E M d tgt L st h o h' mc ms) : AR E M d pc L (.int y :: .int x :: st) h o h' mc ms := AR.gt2 hd ht (fun _ => kt) (fun z => absurd hc (by exact z))
theorem AR.gt2f {off : Int} {tgt : Nat} {x y : Int32} (hd : decode M.bytes pc = .ok (.if_icmp .gt off, 3)) (ht : (pc : Int) + off = (tgt : Int)) (hc : ¬ y < x) (kf : AR E M d (pc + 3) L st h o h' mc ms) : AR E M d pc L (.int y :: .int x :: st) h o h' mc ms := AR.gt2 hd ht (fun z => absurd z (by exact hc)) (fun _ => kf)
theorem AR.le {off : Int} {tgt : Nat} {x : Int32} (hd : decode M.bytes pc = .ok (.ifCond .le off, 3)) (ht : (pc : Int) + off = (tgt : Int)) (kt : x ≤ 0 → AR E M d tgt L st h o h' mc ms) (kf : ¬ x ≤ 0 → AR E M d (pc + 3) L st h o h' mc ms) : AR E M d pc L (.int x :: st) h o h' mc ms := by
  intro p e R s m args below meth c H locs cells slots ls mcT msT C hR hS hl b1 b2 b3 b4
  exact lv_if_le C.1 C.2.1 hd ht (fun z => kt z p e R s m args below meth c H locs cells slots ls mcT msT C hR hS hl b1 b2 b3 b4) (fun z => kf z p e R s m args below meth c H locs cells slots ls mcT msT C hR hS hl b1 b2 b3 b4)
theorem AR.let {off : Int} {tgt : Nat} {x : Int32} (hd : decode M.bytes pc = .ok (.ifCond .le off, 3)) (ht : (pc : Int) + off = (tgt : Int)) (hc : x ≤ 0) (kt : AR E M d tgt L st h o h' mc ms) : AR E M d pc L (.int x :: st) h o h' mc ms := AR.le hd ht (fun _ => kt) (fun z => absurd hc (by exact z))
theorem AR.lef {off : Int} {tgt : Nat} {x : Int32} (hd : decode M.bytes pc = .ok (.ifCond .le off, 3)) (ht : (pc : Int) + off = (tgt : Int)) (hc : ¬ x ≤ 0) (kf : AR E M d (pc + 3) L st h o h' mc ms) : AR E M d pc L (.int x :: st) h o h' mc ms := AR.le hd ht (fun z => absurd z (by exact hc)) (fun _ => kf)
theorem AR.le2 {off : Int} {tgt : Nat} {x y : Int32} (hd : decode M.bytes pc = .ok (.if_icmp .le off, 3)) (ht : (pc : Int) + off = (tgt : Int)) (kt : x ≤ y → AR E M d tgt L st h o h' mc ms) (kf : ¬ x ≤ y → AR E M d (pc + 3) L st h o h' mc ms) : AR E M d pc L (.int y :: .int x :: st) h o h' mc ms := by
  intro p e R s m args below meth c H locs cells slots ls mcT msT C hR hS hl b1 b2 b3 b4
  exact lv_icmp_le C.1 C.2.1 hd ht (fun z => kt z p e R s m args below meth c H locs cells slots ls mcT msT C hR hS hl b1 b2 b3 b4) (fun z => kf z p e R s m args below meth c H locs cells slots ls mcT msT C hR hS hl b1 b2 b3 b4)
theorem AR.le2t {off : Int} {tgt : Nat} {x y : Int32} (hd : decode M.bytes pc = .ok (.if_icmp .le off, 3)) (ht : (pc : Int) + off = (tgt : Int)) (hc : x ≤ y) (kt : AR E M d tgt L st h o h' mc ms) : AR E M d pc L (.int y :: .int x :: st) h o h' mc ms := AR.le2 hd ht (fun _ => kt) (fun z => absurd hc (by exact z))
theorem AR.le2f {off : Int} {tgt : Nat} {x y : Int32} (hd : decode M.bytes pc = .ok (.if_icmp .le off, 3)) (ht : (pc : Int) + off = (tgt : Int)) (hc : ¬ x ≤ y) (kf : AR E M d (pc + 3) L st h o h' mc ms) : AR E M d pc L (.int y :: .int x :: st) h o h' mc ms := AR.le2 hd ht (fun z => absurd z (by exact hc)) (fun _ => kf)
theorem AR.tsw {dflt lo hi : Int} {offs : Array Int} {len : Nat} {x : Int32} {off : Int} {tgt : Nat} (hd : decode M.bytes pc = .ok (.tableswitch dflt lo hi offs, len)) (j : Nat) (hx : x.toInt = lo + j) (hj : j < (hi + 1 - lo).toNat) (ho : offs[j]? = some off) (ht : (pc : Int) + off = (tgt : Int)) (k : AR E M d tgt L st h o h' mc ms) : AR E M d pc L (.int x :: st) h o h' mc ms := by
  intro p e R s m args below meth c H locs cells slots ls mcT msT C hR hS hl b1 b2 b3 b4
  have e9 : (x.toInt - lo).toNat = j := by omega
  exact lv_tableIn C.1 C.2.1 hd (by omega) (by omega) (by rw [e9]; exact ho) ht (k p e R s m args below meth c H locs cells slots ls mcT msT C hR hS hl b1 b2 b3 b4)
theorem AR.tswd {dflt lo hi : Int} {offs : Array Int} {len : Nat} {x : Int32} {tgt : Nat} (hd : decode M.bytes pc = .ok (.tableswitch dflt lo hi offs, len)) (hx : x.toInt < lo ∨ hi < x.toInt) (ht : (pc : Int) + dflt = (tgt : Int)) (k : AR E M d tgt L st h o h' mc ms) : AR E M d pc L (.int x :: st) h o h' mc ms := by
  intro p e R s m args below meth c H locs cells slots ls mcT msT C hR hS hl b1 b2 b3 b4
  exact lv_tableOut C.1 C.2.1 hd hx ht (k p e R s m args below meth c H locs cells slots ls mcT msT C hR hS hl b1 b2 b3 b4)
theorem AR.lsw {dflt : Int} {ps : Array (Int × Int)} {len : Nat} {x : Int32} {off : Int} {tgt : Nat} (hd : decode M.bytes pc = .ok (.lookupswitch dflt ps, len)) (hp : (ps.toList.zip (ps.toList.drop 1)).all (fun (a, next) => a.1 < next.1) = true) (ho : Op.lookupswitch.offset ps.toList dflt x.toInt = off) (ht : (pc : Int) + off = (tgt : Int)) (k : AR E M d tgt L st h o h' mc ms) : AR E M d pc L (.int x :: st) h o h' mc ms := by
  intro p e R s m args below meth c H locs cells slots ls mcT msT C hR hS hl b1 b2 b3 b4
  exact lv_lookup C.1 C.2.1 hd hp ho ht (k p e R s m args below meth c H locs cells slots ls mcT msT C hR hS hl b1 b2 b3 b4)
theorem AR.reti {v : Int32} (hd : decode M.bytes pc = .ok (.ireturn, 1)) (hr : M.ret = some .int) : AR E M d pc L [.int v] h (.inl (some (.int v))) h mc ms := by
  intro p e R s m args below meth c H locs cells slots ls mcT msT C hR hS hl b1 b2 b3 b4
  refine W.widen (k := mcT) (n := msT) (by omega) (by omega) ?_
  exact vx_ret (W.iret C.1 C.2.1 (C.2.2.2.1.trans hr) (fun t ht hW => ⟨some (.int v), rfl, rfl, by rw [ht]; exact ab_R.moved hW.alike hR, hS.F ht⟩) hS.2.2 hd C.2.2.2.2.2.2.1)
theorem AR.retz {v : Int32} (hd : decode M.bytes pc = .ok (.ireturn, 1)) (hr : M.ret = some .boolean) (hv : v = 0 ∨ v = 1) : AR E M d pc L [.int v] h (.inl (some (.int v))) h mc ms := by
  intro p e R s m args below meth c H locs cells slots ls mcT msT C hR hS hl b1 b2 b3 b4
  refine W.widen (k := mcT) (n := msT) (by omega) (by omega) ?_
  exact vx_ret (W.zret C.1 C.2.1 (C.2.2.2.1.trans hr) (by rcases hv with rfl | rfl <;> rfl) (fun t ht hW => ⟨some (.int v), rfl, rfl, by rw [ht]; exact ab_R.moved hW.alike hR, hS.F ht⟩) hS.2.2 hd C.2.2.2.2.2.2.1)
theorem AR.retl {v : Int64} (hd : decode M.bytes pc = .ok (.lreturn, 1)) (hr : M.ret = some .long) : AR E M d pc L [.long v] h (.inl (some (.long v))) h mc ms := by
  intro p e R s m args below meth c H locs cells slots ls mcT msT C hR hS hl b1 b2 b3 b4
  refine W.widen (k := mcT) (n := msT) (by omega) (by omega) ?_
  exact vx_ret (W.lret C.1 C.2.1 (C.2.2.2.1.trans hr) (fun t ht hW => ⟨some (.long v), rfl, rfl, by rw [ht]; exact ab_R.moved hW.alike hR, hS.F ht⟩) hS.2.2 hd C.2.2.2.2.2.2.1)
theorem AR.retd {v : UInt64} (hd : decode M.bytes pc = .ok (.dreturn, 1)) (hr : M.ret = some .double) : AR E M d pc L [.double v] h (.inl (some (.double v))) h mc ms := by
  intro p e R s m args below meth c H locs cells slots ls mcT msT C hR hS hl b1 b2 b3 b4
  refine W.widen (k := mcT) (n := msT) (by omega) (by omega) ?_
  exact vx_ret (W.dret C.1 C.2.1 (C.2.2.2.1.trans hr) (fun t ht hW => ⟨some (.double v), rfl, rfl, by rw [ht]; exact ab_R.moved hW.alike hR, hS.F ht⟩) hS.2.2 hd C.2.2.2.2.2.2.1)
theorem AR.retv (hd : decode M.bytes pc = .ok (.return_, 1)) (hr : M.ret = none) : AR E M d pc L [] h (.inl (none)) h mc ms := by
  intro p e R s m args below meth c H locs cells slots ls mcT msT C hR hS hl b1 b2 b3 b4
  refine W.widen (k := mcT) (n := msT) (by omega) (by omega) ?_
  exact vx_ret (W.vret C.1 C.2.1 (C.2.2.2.1.trans hr) (fun t ht hW => ⟨none, rfl, rfl, by rw [ht]; exact ab_R.moved hW.alike hR, hS.F ht⟩) hS.2.2 hd C.2.2.2.2.2.2.1)
end BR
/-- the locals with which a method begins -/
def ab_sl : List Value → AL
  | [] => []
  | .long z :: vs => some (.long z) :: none :: ab_sl vs
  | .double z :: vs => some (.double z) :: none :: ab_sl vs
  | v :: vs => some v :: ab_sl vs
def ab_ent (av : List Value) (n : Nat) : AL := ab_sl av ++ List.replicate (n - (ab_sl av).length) none
theorem ab_sl_len (E : AE) : ∀ av : List Value, (lg_sl (av.map (ab_v E))).length = (ab_sl av).length
  | [] => rfl
  | v :: vs => by
    have ih := ab_sl_len E vs
    unfold lg_sl at ih ⊢
    rw [List.map_cons, List.flatMap_cons, List.length_append, ih, ab_cat_v]
    cases v <;> simp [ab_sl, Value.category] <;> omega
theorem ab_sl_args (E : AE) : ∀ (av : List Value) (k i : Nat) (v : Value), (ab_sl av)[i]? = some (some v) → (k + i, ab_v E v) ∈ lv_args k (av.map (ab_v E))
  | [], k, i, v, h => by simp [ab_sl] at h
  | x :: vs, k, i, v, h => by
    rw [List.map_cons]
    unfold lv_args
    rw [ab_cat_v]
    have two : ∀ (y : Value) (r : AL), r = some y :: none :: ab_sl vs → y.category = 2 → r[i]? = some (some v) → (k + i, ab_v E v) ∈ (k, ab_v E y) :: lv_args (if y.category = 2 then k + 2 else k + 1) (vs.map (ab_v E)) := by
      intro y r hr hc hi
      subst hr
      rw [if_pos hc]
      match i, hi with
      | 0, hi => cases hi; exact List.mem_cons_self
      | 1, hi => cases hi
      | i + 2, hi =>
        have := ab_sl_args E vs (k + 2) i v hi
        rw [show k + (i + 2) = k + 2 + i by omega]
        exact List.mem_cons_of_mem _ this
    have one : ∀ (y : Value) (r : AL), r = some y :: ab_sl vs → ¬ y.category = 2 → r[i]? = some (some v) → (k + i, ab_v E v) ∈ (k, ab_v E y) :: lv_args (if y.category = 2 then k + 2 else k + 1) (vs.map (ab_v E)) := by
      intro y r hr hc hi
      subst hr
      rw [if_neg hc]
      match i, hi with
      | 0, hi => cases hi; exact List.mem_cons_self
      | i + 1, hi =>
        have := ab_sl_args E vs (k + 1) i v hi
        rw [show k + (i + 1) = k + 1 + i by omega]
        exact List.mem_cons_of_mem _ this
    cases x with
    | long z => exact two (.long z) _ rfl rfl h
    | double z => exact two (.double z) _ rfl rfl h
    | int z => exact one (.int z) _ rfl (fun q => by cases q) h
    | float z => exact one (.float z) _ rfl (fun q => by cases q) h
    | null => exact one .null _ rfl (fun q => by cases q) h
    | ref z => exact one (.ref z) _ rfl (fun q => by cases q) h
    | retAddr z => exact one (.retAddr z) _ rfl (fun q => by cases q) h
theorem ab_entry (E : AE) (av : List Value) {n : Nat} (hn : (ab_sl av).length ≤ n) : lv_has ((lg_sl (av.map (ab_v E)) ++ List.replicate (n - (lg_sl (av.map (ab_v E))).length) Slot.unset).toArray) n (ab_lvs E (ab_ent av n)) := by
  refine ab_has_of (lv_entry (av.map (ab_v E)) (by rw [ab_sl_len]; exact hn)) fun q hq => ?_
  obtain ⟨v, h1, h2⟩ := ab_lvs_mem.mp hq
  unfold ab_ent at h1
  by_cases hi : q.1 < (ab_sl av).length
  · rw [List.getElem?_append_left hi] at h1
    have := ab_sl_args E av 0 q.1 v h1
    rw [Nat.zero_add, ← h2] at this
    exact this
  · rw [List.getElem?_append_right (by omega), List.getElem?_replicate] at h1
    split at h1 <;> cases h1
/-! contracts -/
def ab_rm (d mc ms : Nat) : Room := { frames := d + 8, cells := mc, slots := ms, locals := 40 * d + 200 }
def ab_cond (M : AM) : Cond := match M.hh with
  | [] => .code M.y M.bytes M.maxL M.ret
  | q :: r => .codeWith M.y M.bytes M.maxL M.ret (q :: r)
abbrev ab_ws (M : AM) : List Cond := ab_cond M :: ab_W
def ab_Pc (E : AE) (av : List Value) (h : AH) : Array Value → State → Prop := va_Pc (av.map (ab_v E)) (fun U => ab_R E h U U.heap ∧ va_K E.D vwCl (ab_tys E) U ∧ ab_SF E U ∧ U.vm.findClass "[I" = some E.cI ∧ U.vm.findClass "[J" = some E.cJ)
/-- the method M, called with av over the heap h, comes to its end o, h' -/
def CT (E : AE) (M : AM) (d : Nat) (av : List Value) (h : AH) (o : AR0) (h' : AH) (mc ms : Nat) : Prop := vx_Met E.l M.y (ab_ws M) (ab_rm d mc ms) (ab_Pc E av h) (ab_Qc E o h') (ab_Xc E o h') mc ms (ab_A E)
def ab_fit (M : AM) (av : List Value) : Bool := plainName M.y.cls && Nat.ble (ab_sl av).length M.maxL
set_option maxHeartbeats 1000000 in
theorem CT.of {E : AE} {M : AM} {d : Nat} {av : List Value} {h : AH} {o : AR0} {h' : AH} {mc ms : Nat} {L : AL} (hf : ab_fit M av = true) (hL : ab_ent av M.maxL = L) (k : AR E M d 0 L [] h o h' mc ms) : CT E M d av h o h' mc ms := by
  unfold ab_fit at hf
  rw [Bool.and_eq_true] at hf
  obtain ⟨hy, hn⟩ := hf
  have hn := Nat.le_of_ble_eq_true hn
  subst hL
  have body : ∀ (p : Program) (e : Env) (s : State) (m : MethodId) (args : Array Value) (below : List Frame) (meth : Method) (c : Code) (s₁ : State), BodyLoose p E.l M.y (headSpec (ab_ws M) (ab_rm d mc ms)) M.bytes M.maxL M.ret e s m args below meth c s₁ → c.maxLocals = M.maxL → c.exceptionTable.toList = tableOf M.hh → ab_Pc E av h args s →
      W p E.l e (headSpec (ab_ws M) (ab_rm d mc ms)).room s m args below meth c s.heap [] 0 0 (vx_MQ below (ab_Qc E o h') (ab_Xc E o h') args s mc ms (ab_A E)) (entryFrame m args M.maxL) := by
    intro p e s m args below meth c s₁ B hml ht hv
    obtain ⟨rfl, hR, hK, hF, hI, hJ⟩ := hv
    have hts := atoms_spec (ws := ab_ws M) B.pre
    have hown : s.vm.findClass M.own = some m.cls := findClass_of_methodNamed B.named
    have hnm : meth.name = M.y.name := (name_of_methodNamed B.named B.method).1
    rw [lg_entry_eq]
    exact k p e _ s m _ below meth c s.heap [] 0 0 _ mc ms ⟨B.exec, B.bytes, hml, B.returns, hown, fun w hw => hts w (List.mem_cons_of_mem _ hw), B.notSynchronized, hnm, ht, hK, hF, Nat.le_refl _, Nat.le_refl _, hI, hJ⟩ hR va_S.rf (ab_entry E av hn) (by omega) (by omega) (Nat.le_refl _) (Nat.le_refl _)
  unfold CT
  cases hh : M.hh with
  | nil =>
    refine vx_ofW (cc := M.bytes) (maxL := M.maxL) (ret := M.ret) (ws' := ab_W) hy (by unfold ab_ws ab_cond; rw [hh]) ?_
    intro p e s m args below meth c s₁ B hml ht hv
    refine body p e s m args below meth c s₁ B hml ?_ hv
    rw [hh]
    cases hx : c.exceptionTable.toList with
    | nil => rfl
    | cons x r => exact (ht x (by rw [hx]; exact List.mem_cons_self)).elim
  | cons q r =>
    refine vx_ofWH (cc := M.bytes) (maxL := M.maxL) (ret := M.ret) (hh := q :: r) (ws' := ab_W) hy (by unfold ab_ws ab_cond; rw [hh]) ?_
    intro p e s m args below meth c s₁ B hml hv
    refine body p e s m args below meth c s₁ B hml ?_ hv
    rw [hh]
    refine vx_table (x := M.y) B (bytes := M.bytes) (maxL' := M.maxL) (ret' := M.ret) (atoms_spec (ws := ab_ws M) B.pre _ ?_)
    unfold ab_ws ab_cond
    rw [hh]
    exact List.mem_cons_self
theorem ab_blind (E : AE) (av : List Value) (h : AH) : FrameBlind (ab_Pc E av h) := by
  intro a U g mk q
  obtain ⟨q0, q1, q2, q3, q4, q5⟩ := q
  have hal : U.vm.Alike (U.calling g mk a).vm := Vm.Alike.refl U.vm
  refine ⟨q0, ?_, ?_, ?_, q4, q5⟩
  · exact ab_R.moved (u := U) (U := U.calling g mk a) hal q1
  · exact va_K.moved (u := U) (U := U.calling g mk a) hal q2
  · exact ab_SF.moved (s := U) (U := U.calling g mk a) (H := U.heap) (locs := []) q3 (State.WarmedH.refl U) va_S.rf rfl
end
section
theorem ab_gin : GoodIn ab_W ab_W := fun w h => ⟨h, ab_W_good h⟩
theorem ab_ginM {M : AM} (hc : ab_cond M ∈ ab_W) : GoodIn ab_W (ab_ws M) := fun w h => by
  rcases List.mem_cons.mp h with e | e
  · rw [e]; exact ⟨hc, ab_W_good hc⟩
  · exact ⟨e, ab_W_good e⟩
def ab_nMH (s : String) : Bool := decide (s ≠ "java/lang/invoke/MethodHandle") && decide (s ≠ "java/lang/invoke/VarHandle")
def ab_pars (M : AM) (n : Nat) : Bool := ab_nMH M.y.cls && decide ((parseMethodDescriptor M.y.desc).map (fun d => d.parameters.length) = some n) && Nat.ble M.maxL 21
/-- a static call's words; a virtual one's; a constructor's -/
def ab_lkS (own : String) (idx : Nat) (M : AM) (n : Nat) (is : List Nat) : Bool := ab_ats is [.methodLink own idx M.y, .static M.y, .initialized M.y.cls, ab_cond M] && ab_pars M n
def ab_lkV (own : String) (idx : Nat) (M : AM) (n : Nat) (is : List Nat) : Bool := ab_ats is [.methodLink own idx M.y, .instanceMethod M.y, .selects M.y.cls M.y M.y, .initialized M.y.cls, ab_cond M] && ab_pars M n
def ab_lkI (own : String) (idx : Nat) (M : AM) (n : Nat) (is : List Nat) : Bool := ab_ats is [.methodLink own idx M.y, .instanceMethod M.y, .initialized M.y.cls, ab_cond M] && ab_pars M n && decide (M.y.name = "<init>") && decide (M.ret = none) && decide (M.hh = [])
def ab_lkN (own : String) (idx : Nat) (M : AM) (n : Nat) (is : List Nat) : Bool := ab_ats is [.instanceMethod M.y, .initialized M.y.cls, ab_cond M] && ab_pars M n && decide (M.y.name = "<init>") && decide (M.ret = none) && decide (M.hh = []) && decide (own = "LeafCradles") && decide ((idx, M.y) ∈ ab_nest)
theorem ab_pars_ok {M : AM} {n : Nat} (h : ab_pars M n = true) : (M.y.cls ≠ "java/lang/invoke/MethodHandle" ∧ M.y.cls ≠ "java/lang/invoke/VarHandle" ∧ (parseMethodDescriptor M.y.desc).map (fun d => d.parameters.length) = some n) ∧ M.maxL ≤ 21 := by
  unfold ab_pars ab_nMH at h
  simp only [Bool.and_eq_true, decide_eq_true_eq] at h
  exact ⟨⟨h.1.1.1, h.1.1.2, h.1.2⟩, Nat.le_of_ble_eq_true h.2⟩
section RUN
variable {E : AE} {M Mc : AM} {d pc : Nat} {p : Program} {e : Env} {R : Room} {s : State} {m : MethodId} {args : Array Value} {below : List Frame} {meth : Method} {c : Code} {H : Heap} {locs : List Loc} {cells slots : Nat} {ls : Array Slot} {L : AL}
variable {idx n : Nat} {is : List Nat} {av rest : List Value} {h h1 : AH} {o1 : AR0} {mc1 ms1 : Nat}
theorem ab_pre (C : ab_Ctx E M (d + 1) p R s m args meth c) (hR : ab_R E h s H) (hS : va_S (ab_A E) s.heap H locs) : ∀ U : State, U.heap = H → s.WarmedH U.vm → ab_Pc E av h (av.map (ab_v E)).toArray U := by
  intro U hU hW
  obtain ⟨cx, cb, cml, cr, cown, cw, clk, cnm, cex, cK, cSF, cf, clo, cfi, cfj⟩ := C
  refine ⟨rfl, by rw [hU]; exact ab_R.moved hW.alike hR, va_K.moved hW.alike cK, cSF.moved hW hS hU, ?_, ?_⟩
  · rw [hW.alike.findClass]; exact cfi
  · rw [hW.alike.findClass]; exact cfj
theorem ab_runS (C : ab_Ctx E M (d + 1) p R s m args meth c) (hR : ab_R E h s H) (hS : va_S (ab_A E) s.heap H locs) (hl : lv_has ls M.maxL (ab_lvs E L)) (hk : ab_lkS M.own idx Mc n is = true) (hn : av.length = n) (hc : CT E Mc d av h o1 h1 mc1 ms1) (hcat : ab_cat rest = true) (hd : decode M.bytes pc = .ok (.invokestatic idx, 3)) (f1 : cells + mc1 ≤ R.cells) (f2 : slots + ms1 ≤ R.slots) :
    vx_Run p E.l e R s m args below meth c H locs cells slots mc1 ms1 (F0 m pc ls ((av.reverse ++ rest).map (ab_v E))) (rest.map (ab_v E)) (ab_Qc E o1 h1 (av.map (ab_v E)).toArray) (ab_Xc E o1 h1) (ab_A E) := by
  have hpre := ab_pre (av := av) C hR hS
  obtain ⟨cx, cb, cml, cr, cown, cw, clk, cnm, cex, cK, cSF, cf, clo, cfi, cfj⟩ := id C
  unfold ab_lkS at hk
  rw [Bool.and_eq_true] at hk
  obtain ⟨hk1, hk2⟩ := hk
  have hm := ab_ats_mem hk1
  obtain ⟨hk3, hk4⟩ := ab_pars_ok hk2
  have hcd : ab_cond Mc ∈ ab_W := hm _ (by simp)
  have hcat := ab_cat8 (E := E) hcat
  have hG : GoodIn ab_W (va_wsS M.own idx Mc.y (ab_ws Mc)) := by
    intro w hw
    rcases List.mem_append.mp hw with hw | hw
    · have : w ∈ ab_W := hm w (by simp at hw ⊢; rcases hw with rfl | rfl | rfl <;> simp)
      exact ⟨this, ab_W_good this⟩
    · exact ab_ginM hcd w hw
  have hrm : (ab_rm d mc1 ms1).frames + 1 ≤ R.frames ∧ 8 + (Mc.maxL + 11) + (ab_rm d mc1 ms1).locals ≤ R.locals := ⟨by show d + 8 + 1 ≤ _; omega, by show 8 + (Mc.maxL + 11) + (40 * d + 200) ≤ _; omega⟩
  have hF : CallFix p m c M.bytes M.maxL s args ab_W M.own := ⟨cx, cb, cml, cown, cw⟩
  have hst : (F0 m pc ls ((av.reverse ++ rest).map (ab_v E))).stack = (av.map (ab_v E)).reverse ++ rest.map (ab_v E) := by
    show (av.reverse ++ rest).map (ab_v E) = _
    rw [List.map_append, List.map_reverse]
  cases hh : Mc.hh with
  | nil =>
    have hw : ab_ws Mc = Cond.code Mc.y Mc.bytes Mc.maxL Mc.ret :: ab_W := by unfold ab_ws ab_cond; rw [hh]
    exact vx_runS hF hc (va_cwS n cw hG hw rfl rfl hk3 hrm) ⟨ab_blind E av h, hpre⟩ rfl (by simpa using hn) hl.1 hst (by show 2 * 0 + _ ≤ 8; omega) hd ⟨f1, f2⟩
  | cons q r =>
    have hw : ab_ws Mc = Cond.codeWith Mc.y Mc.bytes Mc.maxL Mc.ret (q :: r) :: ab_W := by unfold ab_ws ab_cond; rw [hh]
    exact vx_runSX hF hc (vx_cwSW n cw hG hw rfl rfl hk3 hrm) ⟨ab_blind E av h, hpre⟩ rfl (by simpa using hn) hl.1 hst (by show 2 * 0 + _ ≤ 8; omega) hd ⟨f1, f2⟩
theorem ab_runV {q ci : Nat} {fs : List Value} (C : ab_Ctx E M (d + 1) p R s m args meth c) (hR : ab_R E h s H) (hS : va_S (ab_A E) s.heap H locs) (hl : lv_has ls M.maxL (ab_lvs E L)) (hk : ab_lkV M.own idx Mc n is = true) (hg : ab_get h q = some (.inr (ci, fs))) (hci : (vwCl[ci]?).map (·.1) = some Mc.y.cls) (hn : av.length = n) (hc : CT E Mc d (.ref q :: av) h o1 h1 mc1 ms1) (hcat : ab_cat rest = true) (hd : decode M.bytes pc = .ok (.invokevirtual idx, 3)) (f1 : cells + mc1 ≤ R.cells) (f2 : slots + ms1 ≤ R.slots) :
    vx_Run p E.l e R s m args below meth c H locs cells slots mc1 ms1 (F0 m pc ls ((av.reverse ++ .ref q :: rest).map (ab_v E))) (rest.map (ab_v E)) (ab_Qc E o1 h1 ((.ref q :: av).map (ab_v E)).toArray) (ab_Xc E o1 h1) (ab_A E) := by
  have hpre := ab_pre (av := .ref q :: av) C hR hS
  obtain ⟨cx, cb, cml, cr, cown, cw, clk, cnm, cex, cK, cSF, cf, clo, cfi, cfj⟩ := id C
  unfold ab_lkV at hk
  rw [Bool.and_eq_true] at hk
  obtain ⟨hk1, hk2⟩ := hk
  have hm := ab_ats_mem hk1
  obtain ⟨hk3, hk4⟩ := ab_pars_ok hk2
  have hcd : ab_cond Mc ∈ ab_W := hm _ (by simp)
  have hcat := ab_cat8 (E := E) hcat
  have hG : GoodIn ab_W (wsV M.own idx Mc.y.cls Mc.y (ab_ws Mc)) := by
    intro w hw
    rcases List.mem_append.mp hw with hw | hw
    · have : w ∈ ab_W := hm w (by simp at hw ⊢; rcases hw with rfl | rfl | rfl | rfl <;> simp)
      exact ⟨this, ab_W_good this⟩
    · exact ab_ginM hcd w hw
  have hrm : (ab_rm d mc1 ms1).frames + 1 ≤ R.frames ∧ 8 + (Mc.maxL + 11) + (ab_rm d mc1 ms1).locals ≤ R.locals := ⟨by show d + 8 + 1 ≤ _; omega, by show 8 + (Mc.maxL + 11) + (40 * d + 200) ≤ _; omega⟩
  have hF : CallFix p m c M.bytes M.maxL s args ab_W M.own := ⟨cx, cb, cml, cown, cw⟩
  have hst : (F0 m pc ls ((av.reverse ++ .ref q :: rest).map (ab_v E))).stack = (av.map (ab_v E)).reverse ++ .ref (ab_adr E q) :: rest.map (ab_v E) := by
    show (av.reverse ++ .ref q :: rest).map (ab_v E) = _
    rw [List.map_append, List.map_reverse]
    rfl
  have q0 := ab_new_of hR hg
  have ha := hR.2.2.2.1 q _ q0 hg
  obtain ⟨x, hx, hx2⟩ : ∃ x, vwCl[ci]? = some x ∧ x.1 = Mc.y.cls := by
    cases hz : vwCl[ci]? with
    | none => rw [hz] at hci; cases hci
    | some x => rw [hz] at hci; exact ⟨x, rfl, Option.some.inj hci⟩
  have hrec : ∃ cellB : Cell, H[ab_adr E q]? = some cellB ∧ cellB.vm.isStatics = false ∧ s.vm.findClass Mc.y.cls = some cellB.cls := by
    have := va_recv (tys := ab_tys E) cK (ab_P1 ha) (q0 := 0) hx rfl
    rw [hx2] at this
    exact this
  cases hh : Mc.hh with
  | nil =>
    have hw : ab_ws Mc = Cond.code Mc.y Mc.bytes Mc.maxL Mc.ret :: ab_W := by unfold ab_ws ab_cond; rw [hh]
    exact vx_runV (As := av.map (ab_v E)) hF hc (cwV n cw hG hw rfl rfl ⟨rfl, hk3⟩ hrm) ⟨ab_blind E _ h, hrec, hpre⟩ rfl (by simpa using hn) hl.1 hst (by show 2 * 0 + _ ≤ 8; omega) hd ⟨f1, f2⟩
  | cons x r =>
    have hw : ab_ws Mc = Cond.codeWith Mc.y Mc.bytes Mc.maxL Mc.ret (x :: r) :: ab_W := by unfold ab_ws ab_cond; rw [hh]
    exact vx_runVX (As := av.map (ab_v E)) hF hc (vx_cwVW n cw hG hw rfl rfl ⟨rfl, hk3⟩ hrm) ⟨ab_blind E _ h, hrec, hpre⟩ rfl (by simpa using hn) hl.1 hst (by show 2 * 0 + _ ≤ 8; omega) hd ⟨f1, f2⟩
end RUN
/-- from here, with an exception of class En in flight -/
def ARX (E : AE) (M : AM) (d pc : Nat) (L : AL) (st : List Value) (h : AH) (En : String) (o : AR0) (h' : AH) (mc ms : Nat) : Prop :=
  ∀ (p : Program) (e : Env) (R : Room) (s : State) (m : MethodId) (args : Array Value) (below : List Frame) (meth : Method) (c : Code) (H : Heap) (locs : List Loc) (cells slots : Nat) (ls : Array Slot) (mcT msT : Nat),
    ab_Ctx E M d p R s m args meth c → ab_R E h s H → va_S (ab_A E) s.heap H locs → lv_has ls M.maxL (ab_lvs E L) → cells + mc ≤ mcT → slots + ms ≤ msT → mcT ≤ R.cells → msT ≤ R.slots →
    ∀ (ce : Cell) (q9 : Addr), H[q9]? = some ce → ce.vm = .none → s.vm.findClass En = some ce.cls →
    vx_W p E.l e R s m args below meth c H locs cells slots (vx_MQ below (ab_Qc E o h') (ab_Xc E o h') args s mcT msT (ab_A E)) (F0 m pc ls (st.map (ab_v E))) q9
section CALL
variable {E : AE} {M Mc : AM} {d pc : Nat} {L : AL} {st rest : List Value} {h h1 : AH} {o : AR0} {h' : AH} {mc ms mc1 ms1 : Nat} {idx : Nat} {is : List Nat} {av : List Value} {r : Option Value} {En : String}
theorem ab_close {p : Program} {e : Env} {R : Room} {s : State} {m : MethodId} {args : Array Value} {below : List Frame} {meth : Method} {c : Code} {H : Heap} {locs : List Loc} {cells slots : Nat} {ls : Array Slot} {mcT msT : Nat} {a9 : Array Value} {st0 : List Value}
    (C : ab_Ctx E M (d + 1) p R s m args meth c) (hS : va_S (ab_A E) s.heap H locs) (hl : lv_has ls M.maxL (ab_lvs E L)) (b1 : cells + (mc1 + mc) ≤ mcT) (b2 : slots + (ms1 + ms) ≤ msT) (b3 : mcT ≤ R.cells) (b4 : msT ≤ R.slots)
    (hr : vx_Run p E.l e R s m args below meth c H locs cells slots mc1 ms1 (F0 m pc ls st0) (rest.map (ab_v E)) (ab_Qc E (.inl r) h1 a9) (ab_Xc E (.inl r) h1) (ab_A E))
    (k : AR E M (d + 1) (pc + 3) L (r.toList ++ rest) h1 o h' mc ms) : W p E.l e R s m args below meth c H locs cells slots (vx_MQ below (ab_Qc E o h') (ab_Xc E o h') args s mcT msT (ab_A E)) (F0 m pc ls st0) := by
  intro T hT X
  rcases hr T hT X with ⟨v, st₀, t, T', L1, h0, X', hL, e1, e2, ⟨r', hr1, hr2, hR1, hF⟩, hgo⟩ | ⟨q, st₀, t, T', L1, E1, ce, h0, X', hL, e1, e2, ⟨hz, -, -⟩, -⟩
  · cases hr1
    cases hr2
    obtain ⟨k1, k2, k3⟩ := vx_keep h0 e1 hS (A1 := ab_A E) (fun _ _ z => z) (fun _ z => z) hL hF
    have hal : t.vm.Alike s.vm := by rw [← e2]; exact X'.warmed.alike.symm
    have hR2 : ab_R E h1 s T'.heap := by rw [e1]; exact ab_R.moved hal hR1
    obtain ⟨t2, a1, b1'⟩ := k p e R s m args below meth c T'.heap (locs ++ L1) (cells + mc1) (slots + ms1) ls mcT msT C hR2 k3 hl (by omega) (by omega) b3 b4 T' rfl X'
    refine ⟨t2, hgo t2 ?_, b1'⟩
    have : (Option.map (ab_v E) r).toList ++ List.map (ab_v E) rest = List.map (ab_v E) (r.toList ++ rest) := by cases r <;> rfl
    rw [this]
    exact a1
  · cases hz
theorem ab_closeX {p : Program} {e : Env} {R : Room} {s : State} {m : MethodId} {args : Array Value} {below : List Frame} {meth : Method} {c : Code} {H : Heap} {locs : List Loc} {cells slots : Nat} {ls : Array Slot} {mcT msT : Nat} {a9 : Array Value} {st0 : List Value}
    (C : ab_Ctx E M (d + 1) p R s m args meth c) (hS : va_S (ab_A E) s.heap H locs) (hl : lv_has ls M.maxL (ab_lvs E L)) (b1 : cells + (mc1 + mc) ≤ mcT) (b2 : slots + (ms1 + ms) ≤ msT) (b3 : mcT ≤ R.cells) (b4 : msT ≤ R.slots)
    (hr : vx_Run p E.l e R s m args below meth c H locs cells slots mc1 ms1 (F0 m pc ls st0) (rest.map (ab_v E)) (ab_Qc E (.inr En) h1 a9) (ab_Xc E (.inr En) h1) (ab_A E))
    (k : ARX E M (d + 1) pc L rest h1 En o h' mc ms) : W p E.l e R s m args below meth c H locs cells slots (vx_MQ below (ab_Qc E o h') (ab_Xc E o h') args s mcT msT (ab_A E)) (F0 m pc ls st0) := by
  intro T hT X
  rcases hr T hT X with ⟨v, st₀, t, T', L1, h0, X', hL, e1, e2, ⟨r', hr1, -⟩, hgo⟩ | ⟨q, st₀, t, T', L1, E1, ce, h0, X', hL, e1, e2, ⟨hz, hR1, hF⟩, hce, hcv, hcl, hst⟩
  · cases hr1
  · cases hz
    obtain ⟨k1, k2, k3⟩ := vx_keep h0 e1 hS (A1 := ab_A E) (fun _ _ z => z) (fun _ z => z) hL hF
    have hal : t.vm.Alike s.vm := by rw [← e2]; exact X'.warmed.alike.symm
    have hR2 : ab_R E h1 s T'.heap := by rw [e1]; exact ab_R.moved hal hR1
    obtain ⟨t2, a1, b1'⟩ := k p e R s m args below meth c T'.heap (locs ++ L1) (cells + mc1) (slots + ms1) ls mcT msT C hR2 k3 hl (by omega) (by omega) b3 b4 ce q (by rw [e1]; exact hce) hcv hcl T' rfl X'
    exact ⟨t2, hst.trans a1, b1'⟩
theorem AR.callS (hk : ab_lkS M.own idx Mc av.length is = true) (hd : decode M.bytes pc = .ok (.invokestatic idx, 3)) (hc : CT E Mc d av h (.inl r) h1 mc1 ms1) (hst : st = av.reverse ++ rest) (hcat : ab_cat rest = true) (k : AR E M (d + 1) (pc + 3) L (r.toList ++ rest) h1 o h' mc ms) : AR E M (d + 1) pc L st h o h' (mc1 + mc) (ms1 + ms) := by
  subst hst
  intro p e R s m args below meth c H locs cells slots ls mcT msT C hR hS hl b1 b2 b3 b4
  exact ab_close C hS hl b1 b2 b3 b4 (ab_runS C hR hS hl hk rfl hc hcat hd (by omega) (by omega)) k
theorem AR.callV {q ci : Nat} {fs : List Value} (hk : ab_lkV M.own idx Mc av.length is = true) (hd : decode M.bytes pc = .ok (.invokevirtual idx, 3)) (hg : ab_get h q = some (.inr (ci, fs))) (hci : (vwCl[ci]?).map (·.1) = some Mc.y.cls) (hc : CT E Mc d (.ref q :: av) h (.inl r) h1 mc1 ms1) (hst : st = av.reverse ++ .ref q :: rest) (hcat : ab_cat rest = true) (k : AR E M (d + 1) (pc + 3) L (r.toList ++ rest) h1 o h' mc ms) : AR E M (d + 1) pc L st h o h' (mc1 + mc) (ms1 + ms) := by
  subst hst
  intro p e R s m args below meth c H locs cells slots ls mcT msT C hR hS hl b1 b2 b3 b4
  exact ab_close C hS hl b1 b2 b3 b4 (ab_runV C hR hS hl hk hg hci rfl hc hcat hd (by omega) (by omega)) k
theorem AR.callSX (hk : ab_lkS M.own idx Mc av.length is = true) (hd : decode M.bytes pc = .ok (.invokestatic idx, 3)) (hc : CT E Mc d av h (.inr En) h1 mc1 ms1) (hst : st = av.reverse ++ rest) (hcat : ab_cat rest = true) (k : ARX E M (d + 1) pc L rest h1 En o h' mc ms) : AR E M (d + 1) pc L st h o h' (mc1 + mc) (ms1 + ms) := by
  subst hst
  intro p e R s m args below meth c H locs cells slots ls mcT msT C hR hS hl b1 b2 b3 b4
  exact ab_closeX C hS hl b1 b2 b3 b4 (ab_runS C hR hS hl hk rfl hc hcat hd (by omega) (by omega)) k
theorem AR.callVX {q ci : Nat} {fs : List Value} (hk : ab_lkV M.own idx Mc av.length is = true) (hd : decode M.bytes pc = .ok (.invokevirtual idx, 3)) (hg : ab_get h q = some (.inr (ci, fs))) (hci : (vwCl[ci]?).map (·.1) = some Mc.y.cls) (hc : CT E Mc d (.ref q :: av) h (.inr En) h1 mc1 ms1) (hst : st = av.reverse ++ .ref q :: rest) (hcat : ab_cat rest = true) (k : ARX E M (d + 1) pc L rest h1 En o h' mc ms) : AR E M (d + 1) pc L st h o h' (mc1 + mc) (ms1 + ms) := by
  subst hst
  intro p e R s m args below meth c H locs cells slots ls mcT msT C hR hS hl b1 b2 b3 b4
  exact ab_closeX C hS hl b1 b2 b3 b4 (ab_runV C hR hS hl hk hg hci rfl hc hcat hd (by omega) (by omega)) k
/-- it isn't caught here -/
theorem ARX.out (hh : M.hh = []) : ARX E M d pc L st h En (.inr En) h mc ms := by
  intro p e R s m args below meth c H locs cells slots ls mcT msT C hR hS hl b1 b2 b3 b4 ce q9 hce hcv hcl
  refine vx_out (fun x hx => ?_) C.2.2.2.2.2.2.1 hce hcv hcl (fun t ht hW => ⟨rfl, by rw [ht]; exact ab_R.moved hW hR, hS.F ht⟩) hS.2.2 (by omega) (by omega)
  rw [C.2.2.2.2.2.2.2.2.1, hh] at hx
  cases hx
def ab_pass (own En : String) (pc : Nat) : List ExceptionTableEntry → List (Nat × String) → Bool
  | [], _ => true
  | x :: xs, (i, nm) :: r => (decide (x.catchType ≠ 0) && ab_at i (.classLink own x.catchType nm) && decide ((En, nm) ∈ ab_nc)) && ab_pass own En pc xs r
  | _ :: _, [] => false
theorem ab_pass_ok {own En : String} {pc : Nat} {s : State} {args : Array Value} (hw : ∀ w ∈ ab_W, w.before args s = true) (hn : ∀ q ∈ ab_nc, va_Nc q.1 q.2 s) : ∀ {xs : List ExceptionTableEntry} {r : List (Nat × String)}, ab_pass own En pc xs r = true → ∀ z ∈ xs, covers z pc = false ∨ (z.catchType ≠ 0 ∧ ∃ nm : String, (Cond.classLink own z.catchType nm).before args s = true ∧ va_Nc En nm s)
  | [], _, _ => fun z h => nomatch h
  | x :: xs, (i, nm) :: r, h => fun z hz => by
    simp only [ab_pass, Bool.and_eq_true, decide_eq_true_eq] at h
    rcases List.mem_cons.mp hz with e | e
    · rw [e]; exact Or.inr ⟨h.1.1.1, nm, hw _ (ab_at_mem h.1.1.2), hn _ h.1.2⟩
    · exact ab_pass_ok hw hn h.2 z e
  | _ :: _, [], h => by simp [ab_pass] at h
/-- it is caught here, and put away -/
theorem ARX.catch {a : Nat} {rs : List (Nat × String)} {i9 : Nat} (pre : List ExceptionTableEntry) (x : ExceptionTableEntry) (suf : List ExceptionTableEntry) (hsplit : tableOf M.hh = pre ++ x :: suf) (hpass : ab_pass M.own En pc pre rs = true) (hx : covers x pc = true) (h0 : x.catchType ≠ 0) (hlink : ab_at i9 (.classLink M.own x.catchType En) = true) (hexs : En ∈ ab_exs)
    (hd : decode M.bytes x.handlerPc = .ok (.astore a, 2) ∨ ∃ a4 : Fin 4, (a4 : Nat) = a ∧ decode M.bytes x.handlerPc = .ok (.astore_n a4, 1)) (ha : a < M.maxL) {tgt : Nat} (htg : decode M.bytes x.handlerPc = .ok (.astore a, 2) ∧ tgt = x.handlerPc + 2 ∨ (∃ a4 : Fin 4, (a4 : Nat) = a ∧ decode M.bytes x.handlerPc = .ok (.astore_n a4, 1)) ∧ tgt = x.handlerPc + 1)
    (k : AR E M d tgt ((ab_clr L a).set a none) [] h o h' mc ms) : ARX E M d pc L st h En o h' mc ms := by
  intro p e R s m args below meth c H locs cells slots ls mcT msT C hR hS hl b1 b2 b3 b4 ce q9 hce hcv hcl
  have hput : ∀ ls' : Array Slot, lv_has ls' M.maxL ((a, Value.ref q9) :: (ab_lvs E L).filter (fun q => !(q.1 == a) && !(q.1 + 1 == a && q.2.category == 2))) → lv_has ls' M.maxL (ab_lvs E ((ab_clr L a).set a none)) := by
    intro ls' hl'
    refine ab_has_of hl' fun q hq => ?_
    obtain ⟨w, h1, h2⟩ := ab_lvs_mem.mp hq
    by_cases e9 : q.1 = a
    · rw [e9, List.getElem?_set] at h1
      split at h1
      · split at h1 <;> cases h1
      · exact absurd rfl (by assumption)
    · rw [List.getElem?_set_ne (fun z => e9 z.symm)] at h1
      obtain ⟨g1, g2⟩ := ab_clr_get L a q.1 w h1
      refine List.mem_cons_of_mem _ (List.mem_filter.mpr ⟨ab_lvs_mem.mpr ⟨w, g1, h2⟩, ?_⟩)
      rw [h2, ab_cat_v]
      simp [e9]
      omega
  refine vx_catch C.2.2.2.2.1 pre x suf (by rw [C.2.2.2.2.2.2.2.2.1]; exact hsplit) (ab_pass_ok C.2.2.2.2.2.1 C.2.2.2.2.2.2.2.2.2.2.1.2.2.2.2.1 hpass) hx h0 (C.2.2.2.2.2.1 _ (ab_at_mem hlink)) ((C.2.2.2.2.2.2.2.2.2.2.1.2.2.2.2.2.2.2.2.1 En hexs).word) hce hcv hcl ?_
  rcases htg with ⟨hd2, rfl⟩ | ⟨⟨a4, ha4, hd2⟩, rfl⟩
  · exact lv_astore (lv' := _) C.1 C.2.1 hd2 hl ha rfl (fun ls' hl' => k p e R s m args below meth c H locs cells slots ls' mcT msT C hR hS (hput ls' hl') b1 b2 b3 b4)
  · exact lv_astore_n (lv' := _) C.1 C.2.1 hd2 ha4 hl ha rfl (fun ls' hl' => k p e R s m args below meth c H locs cells slots ls' mcT msT C hR hS (hput ls' hl') b1 b2 b3 b4)
end CALL
end
section
theorem CT.met {E : AE} {M : AM} {d : Nat} {av : List Value} {h : AH} {r : Option Value} {h' : AH} {mc ms : Nat} (hc : CT E M d av h (.inl r) h' mc ms) : Met E.l M.y (ab_ws M) (ab_rm d mc ms) (ab_Pc E av h) (ab_Qc E (.inl r) h') mc ms (ab_A E) := by
  intro p e ha hcs hk s m args below hf happ hP hK
  obtain ⟨n, o, h1, h2, h3, h4⟩ := hc p e ha hcs hk s m args below hf happ hP hK
  refine ⟨n, o, h1, h2, h3, ?_⟩
  rcases h4 with h4 | ⟨q, rfl, En, ce, L, ⟨hz, -⟩, -⟩
  · exact h4
  · cases hz
section NEW
variable {E : AE} {M Mc : AM} {d pc : Nat} {L : AL} {st rest : List Value} {h h1 : AH} {o : AR0} {h' : AH} {mc ms mc1 ms1 : Nat} {idx : Nat} {is : List Nat} {av : List Value}
theorem ab_ofRun {p : Program} {l : Launch} {e : Env} {R : Room} {s : State} {m : MethodId} {args : Array Value} {below : List Frame} {meth : Method} {c : Code} {H : Heap} {locs : List Loc} {cells slots mc ms : Nat} {g : JFrame} {rest : List Value} {Qa : State → Outcome → State → Prop} {XC : String → State → State → Prop} {free : Addr → Prop} (h : va_Run p l e R s m args below meth c H locs cells slots mc ms g rest Qa free) : vx_Run p l e R s m args below meth c H locs cells slots mc ms g rest Qa XC free := fun T hT X => Or.inl (h T hT X)
theorem AR.callI {q : Nat} (hk : ab_lkI M.own idx Mc av.length is = true) (hd : decode M.bytes pc = .ok (.invokespecial idx, 3)) (hc : CT E Mc d (.ref q :: av) h (.inl none) h1 mc1 ms1) (hstk : st = av.reverse ++ .ref q :: rest) (hcat : ab_cat rest = true) (k : AR E M (d + 1) (pc + 3) L rest h1 o h' mc ms) : AR E M (d + 1) pc L st h o h' (mc1 + mc) (ms1 + ms) := by
  subst hstk
  intro p e R s m args below meth c H locs cells slots ls mcT msT C hR hS hl b1 b2 b3 b4
  refine ab_close (r := none) (a9 := ((Value.ref q :: av).map (ab_v E)).toArray) C hS hl b1 b2 b3 b4 (ab_ofRun ?_) k
  have hpre := ab_pre (av := .ref q :: av) C hR hS
  obtain ⟨cx, cb, cml, cr, cown, cw, clk, cnm, cex, cK, cSF, cf, clo, cfi, cfj⟩ := id C
  simp only [ab_lkI, Bool.and_eq_true, decide_eq_true_eq] at hk
  obtain ⟨⟨⟨⟨hk1, hk2⟩, hnm⟩, hret⟩, hh⟩ := hk
  have hm := ab_ats_mem hk1
  obtain ⟨hk3, hk4⟩ := ab_pars_ok hk2
  have hcd : ab_cond Mc ∈ ab_W := hm _ (by simp)
  have hcat := ab_cat8 (E := E) hcat
  have hrm : (ab_rm d mc1 ms1).frames + 1 ≤ R.frames ∧ 8 + (Mc.maxL + 11) + (ab_rm d mc1 ms1).locals ≤ R.locals := ⟨by show d + 8 + 1 ≤ _; omega, by show 8 + (Mc.maxL + 11) + (40 * d + 200) ≤ _; omega⟩
  have hF : CallFix p m c M.bytes M.maxL s args ab_W M.own := ⟨cx, cb, cml, cown, cw⟩
  have hst : (F0 m pc ls ((av.reverse ++ .ref q :: rest).map (ab_v E))).stack = (av.map (ab_v E)).reverse ++ .ref (ab_adr E q) :: rest.map (ab_v E) := by
    show (av.reverse ++ .ref q :: rest).map (ab_v E) = _
    rw [List.map_append, List.map_reverse]
    rfl
  have hw : ab_ws Mc = Cond.code Mc.y Mc.bytes Mc.maxL none :: ab_W := by unfold ab_ws ab_cond; rw [hh, hret]
  exact va_runI (b := ab_adr E q) (As := av.map (ab_v E)) hF hc.met (by
      have hcb : CallB R s args M.own idx Mc.y Mc.bytes Mc.maxL none (ab_ws Mc) (ab_rm d mc1 ms1) mc1 ms1 av.length := callB_of av.length cw (ab_ginM hcd) hw rfl rfl (cw _ (hm _ (by simp))) (cw _ (hm _ (by simp))) hk3 hrm
      exact ⟨hcb, hnm, cw _ (hm _ (by simp))⟩) ⟨ab_blind E _ h, hpre⟩ rfl (by simp) hl.1 hst (by show 2 * 0 + _ ≤ 8; omega) hd ⟨by omega, by omega⟩
theorem AR.callN {q : Nat} (hk : ab_lkN M.own idx Mc av.length is = true) (hd : decode M.bytes pc = .ok (.invokespecial idx, 3)) (hc : CT E Mc d (.ref q :: av) h (.inl none) h1 mc1 ms1) (hstk : st = av.reverse ++ .ref q :: rest) (hcat : ab_cat rest = true) (k : AR E M (d + 1) (pc + 3) L rest h1 o h' mc ms) : AR E M (d + 1) pc L st h o h' (mc1 + mc) (ms1 + ms) := by
  subst hstk
  intro p e R s m args below meth c H locs cells slots ls mcT msT C hR hS hl b1 b2 b3 b4
  refine ab_close (r := none) (a9 := ((Value.ref q :: av).map (ab_v E)).toArray) C hS hl b1 b2 b3 b4 (ab_ofRun ?_) k
  have hpre := ab_pre (av := .ref q :: av) C hR hS
  obtain ⟨cx, cb, cml, cr, cown, cw, clk, cnm, cex, cK, cSF, cf, clo, cfi, cfj⟩ := id C
  simp only [ab_lkN, Bool.and_eq_true, decide_eq_true_eq] at hk
  obtain ⟨⟨⟨⟨⟨⟨hk1, hk2⟩, hnm⟩, hret⟩, hh⟩, hownL⟩, hnst⟩ := hk
  have hm := ab_ats_mem hk1
  obtain ⟨hk3, hk4⟩ := ab_pars_ok hk2
  have hcd : ab_cond Mc ∈ ab_W := hm _ (by simp)
  have hcat := ab_cat8 (E := E) hcat
  have hrm : (ab_rm d mc1 ms1).frames + 1 ≤ R.frames ∧ 8 + (Mc.maxL + 11) + (ab_rm d mc1 ms1).locals ≤ R.locals := ⟨by show d + 8 + 1 ≤ _; omega, by show 8 + (Mc.maxL + 11) + (40 * d + 200) ≤ _; omega⟩
  have hF : CallFix p m c M.bytes M.maxL s args ab_W M.own := ⟨cx, cb, cml, cown, cw⟩
  have hst : (F0 m pc ls ((av.reverse ++ .ref q :: rest).map (ab_v E))).stack = (av.map (ab_v E)).reverse ++ .ref (ab_adr E q) :: rest.map (ab_v E) := by
    show (av.reverse ++ .ref q :: rest).map (ab_v E) = _
    rw [List.map_append, List.map_reverse]
    rfl
  have hw : ab_ws Mc = Cond.code Mc.y Mc.bytes Mc.maxL none :: ab_W := by unfold ab_ws ab_cond; rw [hh, hret]
  exact va_runIN (b := ab_adr E q) (As := av.map (ab_v E)) hF hc.met (by
      refine ⟨va_cnB (host := "LeafCradles") av.length cw (ab_ginM hcd) hw rfl rfl ?_ (cw _ (hm _ (by simp))) hk3 hrm, hnm, cw _ (hm _ (by simp))⟩
      rw [hownL]
      exact cSF.2.2.2.2.2.1 _ hnst) ⟨ab_blind E _ h, hpre⟩ rfl (by simp) hl.1 hst (by show 2 * 0 + _ ≤ 8; omega) hd ⟨by omega, by omega⟩
theorem ab_R_tail {U : State} {H : Heap} (hR : ab_R E h U H) (hex : E.ex = true) {tl : List AC} (htl : h[E.caps.length + 1]? = some tl) (hlt : tl.length < 4096) : ab_adr E (4096 * (E.caps.length + 1) + tl.length) = H.size := by
  obtain ⟨g1, ⟨t, g2, -, g3e⟩, -⟩ := hR
  cases htl.symm.trans g2
  have g3 := g3e hex
  have e1 : (4096 * (E.caps.length + 1) + tl.length) / 4096 = E.caps.length + 1 := by omega
  have e2 : (4096 * (E.caps.length + 1) + tl.length) % 4096 = tl.length := by omega
  unfold ab_adr
  rw [e1, e2, if_neg (by omega), show E.caps.length + 1 - 1 = E.caps.length by omega, ab_off_all, g3]
theorem ab_S_push {A : Nat → Prop} {H0 H H1 : Heap} {locs : List Loc} (hS : va_S A H0 H locs) (z1 : H1.size = H.size + 1) (o1 : ∀ q, q < H.size → H1[q]? = H[q]?) : va_S A H0 H1 locs := ⟨Nat.le_trans hS.1 (by omega), fun x h1 h2 => (o1 x (Nat.lt_of_lt_of_le h1 hS.1)).trans (hS.2.1 x h1 h2), hS.2.2⟩
theorem AR.new {ci : Nat} {Cn : String} {T : u_T} {N i9 : Nat} {fs : List Value} {tl : List AC} (hex : E.ex = true) (hcl : vwCl[ci]? = some (Cn, T, N)) (hlk : ab_at i9 (.classLink M.own idx Cn) = true) (hd : decode M.bytes pc = .ok (.new idx, 3)) (htl : h[E.caps.length + 1]? = some tl) (hlt : tl.length < 4096) (hfs : ∀ j, j < N → defaultValue (ab_ty ci j) = vp_V fs j) (hmap : fs.map (ab_v E) = fs) (k : AR E M d (pc + 3) L (.ref (4096 * (E.caps.length + 1) + tl.length) :: st) (ab_push h (.inr (ci, fs))) o h' mc ms) : AR E M d pc L st h o h' (mc + 1) (ms + N) := by
  intro p e R s m args below meth c H locs cells slots ls mcT msT C hR hS hl b1 b2 b3 b4
  obtain ⟨cx, cb, cml, cr, cown, cw, clk, cnm, cex, cK, cSF, cf, clo, cfi, cfj⟩ := id C
  obtain ⟨hin, hins, hini, hty, hnm, hCT⟩ := ab_cls ci Cn T N hcl
  have hKn := cK.1 ci _ hcl
  have hts : ∀ w ∈ ab_W, w.before args s = true := cw
  have had := ab_R_tail hR hex htl hlt
  refine W.newcK cx cb cown (cw _ (ab_at_mem hlk)) (cw _ hins) (cw _ hini) rfl hd (by omega) (by omega) hKn.2.1 rfl fun H1 kC hkC e1 z1 o1 => ?_
  have hva : va_at E.D vwCl (H.size, ab_cell E (.inr (ci, fs))) H1 := by
    show va_at E.D vwCl (H.size, .inr (ci, fs.map (ab_v E))) H1
    rw [hmap]
    exact ⟨_, hcl, (u_born (ab_ty ci) hts hin hKn hkC e1 hty).to hfs⟩
  have hgo := k p e R s m args below meth c H1 locs (cells + 1) (slots + N) ls mcT msT C (ab_R_push hR hex hva z1 o1).1 (ab_S_push hS z1 o1) hl (by omega) (by omega) b3 b4
  rw [← had]
  exact hgo
theorem AR.newaI {x : Int32} {N i9 : Nat} {tl : List AC} (hex : E.ex = true) (hlk : ab_at i9 (.arrayClass .int) = true) (hd : decode M.bytes pc = .ok (.newarray .int, 2)) (htl : h[E.caps.length + 1]? = some tl) (hlt : tl.length < 4096) (hx : ¬ x < 0) (hN : x.toNatClampNeg = N) (hb : N ≤ 60000000) (k : AR E M d (pc + 2) L (.ref (4096 * (E.caps.length + 1) + tl.length) :: st) (ab_push h (.inl (.inl (N, fun _ => 0)))) o h' mc ms) : AR E M d pc L (.int x :: st) h o h' (mc + 1) (ms + N) := by
  intro p e R s m args below meth c H locs cells slots ls mcT msT C hR hS hl b1 b2 b3 b4
  obtain ⟨cx, cb, cml, cr, cown, cw, clk, cnm, cex, cK, cSF, cf, clo, cfi, cfj⟩ := id C
  have had := ab_R_tail hR hex htl hlt
  refine va_newaK (atype := .int) cx cb (cw _ (ab_at_mem hlk)) rfl hd rfl hx hN (show N * 4 ≤ 536870912 by omega) (by omega) (by omega) rfl fun H1 cA e1 z1 o1 hAr hNm => ?_
  have hcA : cA = E.cI := by
    have h9 : s.vm.findClass "[I" = some cA := hNm
    exact Option.some.inj (h9.symm.trans cfi)
  subst hcA
  have hva : va_at E.D vwCl (H.size, ab_cell E (.inl (.inl (N, fun _ => 0)))) H1 := e1
  have hgo := k p e R s m args below meth c H1 locs (cells + 1) (slots + N) ls mcT msT C (ab_R_push hR hex hva z1 o1).1 (ab_S_push hS z1 o1) hl (by omega) (by omega) b3 b4
  rw [← had]
  exact hgo
theorem AR.newaJ {x : Int32} {N i9 : Nat} {tl : List AC} (hex : E.ex = true) (hlk : ab_at i9 (.arrayClass .long) = true) (hd : decode M.bytes pc = .ok (.newarray .long, 2)) (htl : h[E.caps.length + 1]? = some tl) (hlt : tl.length < 4096) (hx : ¬ x < 0) (hN : x.toNatClampNeg = N) (hb : N ≤ 60000000) (k : AR E M d (pc + 2) L (.ref (4096 * (E.caps.length + 1) + tl.length) :: st) (ab_push h (.inl (.inr (N, fun _ => 0)))) o h' mc ms) : AR E M d pc L (.int x :: st) h o h' (mc + 1) (ms + N) := by
  intro p e R s m args below meth c H locs cells slots ls mcT msT C hR hS hl b1 b2 b3 b4
  obtain ⟨cx, cb, cml, cr, cown, cw, clk, cnm, cex, cK, cSF, cf, clo, cfi, cfj⟩ := id C
  have had := ab_R_tail hR hex htl hlt
  refine va_newaK (atype := .long) cx cb (cw _ (ab_at_mem hlk)) rfl hd rfl hx hN (show N * 8 ≤ 536870912 by omega) (by omega) (by omega) rfl fun H1 cA e1 z1 o1 hAr hNm => ?_
  have hcA : cA = E.cJ := by
    have h9 : s.vm.findClass "[J" = some cA := hNm
    exact Option.some.inj (h9.symm.trans cfj)
  subst hcA
  have hva : va_at E.D vwCl (H.size, ab_cell E (.inl (.inr (N, fun _ => 0)))) H1 := e1
  have hgo := k p e R s m args below meth c H1 locs (cells + 1) (slots + N) ls mcT msT C (ab_R_push hR hex hva z1 o1).1 (ab_S_push hS z1 o1) hl (by omega) (by omega) b3 b4
  rw [← had]
  exact hgo
def ab_thr (ic : Nat) (cls : String) : List Cond := vx_atS "LeafCradles" ic cls ["java/lang/RuntimeException", "java/lang/Exception"]
def ab_thrOk (ic : Nat) (cls : String) : Bool := (ab_thr ic cls).all (fun w => if goodWord w then decide (w ∈ lw_tbl) else (decide (w = .castable cls cls) || ab_decls.any (fun q => decide (w = .declares q)))) && (ab_thr ic cls).all vx_ot && Bundle.fit cls && vx_ot (.initialized cls) && decide (cls ∈ ab_exs)
theorem ab_thrOk_143 : ab_thrOk 143 "java/lang/IllegalArgumentException" = true := by decide +kernel
theorem ab_thrOk_258 : ab_thrOk 258 "java/lang/IndexOutOfBoundsException" = true := by decide +kernel
theorem ab_thrOk_42 : ab_thrOk 42 "java/lang/IllegalStateException" = true := by decide +kernel
theorem AR.throwS {ic ik is9 i8 i9 : Nat} {cls text : String} (hex : E.ex = false) (hown : M.own = "LeafCradles") (hh : M.hh = []) (hok : ab_thrOk ic cls = true) (hlk : ab_ats [i8, i9] [.classLink "LeafCradles" ik cls, .initialized cls] = true) (hg : vx_ot (.classLink "LeafCradles" ik cls) = true) (hstr : ("LeafCradles", is9, text) ∈ ab_strs)
    (d0 : decode M.bytes pc = .ok (.new ik, 3)) (d3 : decode M.bytes (pc + 3) = .ok (.dup, 1)) (d4 : decode M.bytes (pc + 4) = .ok (.ldc is9, 2)) (d6 : decode M.bytes (pc + 6) = .ok (.invokespecial ic, 3)) (d9 : decode M.bytes (pc + 9) = .ok (.athrow, 1)) (hcat : ab_cat st = true) : AR E M d pc L st h (.inr cls) h 1 6 := by
  intro p e R s m args below meth c H locs cells slots ls mcT msT C hR hS hl b1 b2 b3 b4
  obtain ⟨cx, cb, cml, cr, cown, cw, clk, cnm, cex, cK, cSF, cf, clo, cfi, cfj⟩ := id C
  simp only [ab_thrOk, Bool.and_eq_true, decide_eq_true_eq] at hok
  obtain ⟨⟨⟨⟨k1, k2⟩, k3⟩, k4⟩, k5⟩ := hok
  have hm := ab_ats_mem hlk
  obtain ⟨f1, f2, f3, f4, f5, f6, f7, f8, f9, f10⟩ := id cSF
  obtain ⟨sa, hsa⟩ := f4 _ hstr
  have hcat := ab_cat8 (E := E) hcat
  have hat : ∀ w ∈ vx_atS "LeafCradles" ic cls ["java/lang/RuntimeException", "java/lang/Exception"], w.before args s = true := by
    intro w hw
    have h1 := List.all_eq_true.mp k1 w hw
    split at h1
    · rename_i hgw
      exact cw _ (List.mem_filter.mpr ⟨of_decide_eq_true h1, hgw⟩)
    · rcases Bool.or_eq_true _ _ ▸ h1 with h1 | h1
      · rw [of_decide_eq_true h1]
        exact (f9 _ k5).word
      · obtain ⟨q, q1, q2⟩ := List.any_eq_true.mp h1
        rw [of_decide_eq_true q2]
        exact va_Nw.use rfl (f10 q q1)
  rw [hown] at cown
  refine vx_throwS cx cb f7 cown k3 (fun n hn => ?_) (cw _ (hm _ (by simp))) (cw _ (hm _ (by simp))) hsa hat (fun w hw => ?_) f2 f3 hS (hl.1.trans cml.symm) d0 d3 d4 d6 d9 (fun x hx => ?_) (by show 2 + 3 < _; omega) (by show _ + (13 * (2 + 1) + 43) ≤ _; omega) (by omega) (by omega) clk (fun t hal hz ho => ⟨rfl, ab_R.moved hal (ab_R_more hR hex hz ho), ?_⟩) hS.2.2 (by omega) (by omega)
  · simp at hn
    rcases hn with rfl | rfl <;> decide
  · rcases List.mem_cons.mp hw with e9 | hw
    · rw [e9]; exact hg
    · rcases List.mem_cons.mp hw with e9 | hw
      · rw [e9]; exact k4
      · exact List.all_eq_true.mp k2 w hw
  · rw [cex, hh] at hx
    cases hx
  · exact ⟨Nat.le_trans hS.1 hz, fun q h1 h2 => (ho q (Nat.lt_of_lt_of_le h1 hS.1)).trans (hS.2.1 q h1 h2)⟩
theorem AR.throwSW {ic ik is9 i8 i9 : Nat} {cls text : String} (hex : E.ex = false) (hown : M.own = "LeafCradles") (hh : M.hh = []) (hok : ab_thrOk ic cls = true) (hlk : ab_ats [i8, i9] [.classLink "LeafCradles" ik cls, .initialized cls] = true) (hg : vx_ot (.classLink "LeafCradles" ik cls) = true) (hstr : ("LeafCradles", is9, text) ∈ ab_strs)
    (d0 : decode M.bytes pc = .ok (.new ik, 3)) (d3 : decode M.bytes (pc + 3) = .ok (.dup, 1)) (d4 : decode M.bytes (pc + 4) = .ok (.ldc_w is9, 3)) (d6 : decode M.bytes (pc + 7) = .ok (.invokespecial ic, 3)) (d9 : decode M.bytes (pc + 10) = .ok (.athrow, 1)) (hcat : ab_cat st = true) : AR E M d pc L st h (.inr cls) h 1 6 := by
  intro p e R s m args below meth c H locs cells slots ls mcT msT C hR hS hl b1 b2 b3 b4
  obtain ⟨cx, cb, cml, cr, cown, cw, clk, cnm, cex, cK, cSF, cf, clo, cfi, cfj⟩ := id C
  simp only [ab_thrOk, Bool.and_eq_true, decide_eq_true_eq] at hok
  obtain ⟨⟨⟨⟨k1, k2⟩, k3⟩, k4⟩, k5⟩ := hok
  have hm := ab_ats_mem hlk
  obtain ⟨f1, f2, f3, f4, f5, f6, f7, f8, f9, f10⟩ := id cSF
  obtain ⟨sa, hsa⟩ := f4 _ hstr
  have hcat := ab_cat8 (E := E) hcat
  have hat : ∀ w ∈ vx_atS "LeafCradles" ic cls ["java/lang/RuntimeException", "java/lang/Exception"], w.before args s = true := by
    intro w hw
    have h1 := List.all_eq_true.mp k1 w hw
    split at h1
    · rename_i hgw
      exact cw _ (List.mem_filter.mpr ⟨of_decide_eq_true h1, hgw⟩)
    · rcases Bool.or_eq_true _ _ ▸ h1 with h1 | h1
      · rw [of_decide_eq_true h1]
        exact (f9 _ k5).word
      · obtain ⟨q, q1, q2⟩ := List.any_eq_true.mp h1
        rw [of_decide_eq_true q2]
        exact va_Nw.use rfl (f10 q q1)
  rw [hown] at cown
  refine vx_throwSW cx cb f7 cown k3 (fun n hn => ?_) (cw _ (hm _ (by simp))) (cw _ (hm _ (by simp))) hsa hat (fun w hw => ?_) f2 f3 hS (hl.1.trans cml.symm) d0 d3 d4 d6 d9 (fun x hx => ?_) (by show 2 + 3 < _; omega) (by show _ + (13 * (2 + 1) + 43) ≤ _; omega) (by omega) (by omega) clk (fun t hal hz ho => ⟨rfl, ab_R.moved hal (ab_R_more hR hex hz ho), ?_⟩) hS.2.2 (by omega) (by omega)
  · simp at hn
    rcases hn with rfl | rfl <;> decide
  · rcases List.mem_cons.mp hw with e9 | hw
    · rw [e9]; exact hg
    · rcases List.mem_cons.mp hw with e9 | hw
      · rw [e9]; exact k4
      · exact List.all_eq_true.mp k2 w hw
  · rw [cex, hh] at hx
    cases hx
  · exact ⟨Nat.le_trans hS.1 hz, fun q h1 h2 => (ho q (Nat.lt_of_lt_of_le h1 hS.1)).trans (hS.2.1 q h1 h2)⟩
end NEW
end
section
theorem nI_p1 (n : Nat) : nI (n + 1) - nI 1 = nI n := nI_pred n
theorem i_m1 (x : Int32) : x + (-1) = x - nI 1 := by rw [Int32.sub_eq_add_neg]; rfl
/-! rules in the form that the walks use -/
section WK
variable {E : AE} {M Mc : AM} {d pc : Nat} {L : AL} {st rest : List Value} {h h1 : AH} {o : AR0} {h' : AH} {mc ms mc1 ms1 : Nat} {idx : Nat} {is : List Nat} {av : List Value} {En : String}
theorem AR.run {xs : List AI} (hx : ab_oks M xs = true) (pc' : Nat) (L' : AL) (st' : List Value) (h1 : AH) (Ps : List Prop) (hs : ab_run xs pc L st h = some (Ps, (pc', L', st'), h1)) (hp : ab_all Ps) (k : AR E M d pc' L' st' h1 o h' mc ms) : AR E M d pc L st h o h' mc ms := ab_run_ok k hx hs hp
theorem AR.cast {L' : AL} {st' : List Value} {h1 : AH} (hL : L = L') (hst : st = st') (hh : h = h1) (k : AR E M d pc L' st' h1 o h' mc ms) : AR E M d pc L st h o h' mc ms := by subst hL; subst hst; subst hh; exact k
def ab_lsub : AL → AL → Prop
  | [], _ => True
  | none :: r, _ :: s => ab_lsub r s
  | some v :: r, w :: s => w = some v ∧ ab_lsub r s
  | _ :: _, [] => False
theorem ab_lsub_get : ∀ {L' L : AL}, ab_lsub L' L → ∀ (i : Nat) (v : Value), L'[i]? = some (some v) → L[i]? = some (some v)
  | [], _, _, i, v, h => by simp at h
  | none :: r, _ :: s, hs, i, v, h => by
    cases i with
    | zero => simp at h
    | succ i => exact ab_lsub_get (L' := r) (L := s) hs i v h
  | some w :: r, x :: s, hs, i, v, h => by
    cases i with
    | zero => simp at h; subst h; exact congrArg some hs.1
    | succ i => exact ab_lsub_get (L' := r) (L := s) hs.2 i v h
  | _ :: _, [], hs, i, v, h => by simp [ab_lsub] at hs
/-- some locals are forgotten -/
theorem AR.drop {L' : AL} (hL : ab_lsub L' L) (k : AR E M d pc L' st h o h' mc ms) : AR E M d pc L st h o h' mc ms := by
  intro p e R s m args below meth c H locs cells slots ls mcT msT C hR hS hl b1 b2 b3 b4
  exact k p e R s m args below meth c H locs cells slots ls mcT msT C hR hS (ab_has_of hl fun q hq => by
    obtain ⟨v, h1, h2⟩ := ab_lvs_mem.mp hq
    exact ab_lvs_mem.mpr ⟨v, ab_lsub_get hL _ _ h1, h2⟩) b1 b2 b3 b4
theorem AR.end' {o1 : AR0} {h1 : AH} (ho : o1 = o) (hh : h1 = h') (k : AR E M d pc L st h o1 h1 mc ms) : AR E M d pc L st h o h' mc ms := by subst ho; subst hh; exact k
theorem AR.room {mc1 ms1 : Nat} (h1 : mc1 ≤ mc) (h2 : ms1 ≤ ms) (k : AR E M d pc L st h o h' mc1 ms1) : AR E M d pc L st h o h' mc ms := by
  intro p e R s m args below meth c H locs cells slots ls mcT msT C hR hS hl b1 b2 b3 b4
  exact k p e R s m args below meth c H locs cells slots ls mcT msT C hR hS hl (by omega) (by omega) b3 b4
theorem AR.top {x y : Int32} (hxy : x = y) (k : AR E M d pc L (.int y :: st) h o h' mc ms) : AR E M d pc L (.int x :: st) h o h' mc ms := by subst hxy; exact k
theorem AR.ald {n x e q : Nat} {f : Nat → Int32} {i : Int32} (hx : ab_ok M (pc, .iaload, 1, n, n, n, .null) = true) (hi : i = nI e) (hg : ab_get h q = some (.inl (.inl (x, f)))) (he : e < x) (hm : x < 2147483648) (k : AR E M d (pc + 1) L (.int (f e) :: st) h o h' mc ms) : AR E M d pc L (.int i :: .ref q :: st) h o h' mc ms := by
  subst hi
  have e1 : (nI e).toNatClampNeg = e := nI_clamp (by omega)
  refine ab_step_ok hx (Ps := [vp_in (nI e) x]) (pc' := pc + 1) (L' := L) (st' := .int (f e) :: st) (h1 := h) ?_ (vp_in_nI he (by omega)) k
  simp only [ab_step, ab_ald, hg, e1]
theorem AR.ast {n x e q : Nat} {f : Nat → Int32} {i v : Int32} (hx : ab_ok M (pc, .iastore, 1, n, n, n, .null) = true) (hi : i = nI e) (hg : ab_get h q = some (.inl (.inl (x, f)))) (hq : Nat.beq (q / 4096) 0 = false) (he : e < x) (hm : x < 2147483648) (hh : ab_set h q (.inl (.inl (x, upd f e v))) = h1) (k : AR E M d (pc + 1) L st h1 o h' mc ms) : AR E M d pc L (.int v :: .int i :: .ref q :: st) h o h' mc ms := by
  subst hi
  subst hh
  have e1 : (nI e).toNatClampNeg = e := nI_clamp (by omega)
  refine ab_step_ok hx (Ps := [vp_in (nI e) x]) (pc' := pc + 1) (L' := L) (st' := st) (h1 := ab_set h q (.inl (.inl (x, upd f e v)))) ?_ (vp_in_nI he (by omega)) k
  simp only [ab_step, ab_ast, hg, hq, e1]
theorem AR.last {n x e q : Nat} {f : Nat → Int64} {i : Int32} {v : Int64} (hx : ab_ok M (pc, .lastore, 1, n, n, n, .null) = true) (hi : i = nI e) (hg : ab_get h q = some (.inl (.inr (x, f)))) (hq : Nat.beq (q / 4096) 0 = false) (he : e < x) (hm : x < 2147483648) (hh : ab_set h q (.inl (.inr (x, vp_updL f e v))) = h1) (k : AR E M d (pc + 1) L st h1 o h' mc ms) : AR E M d pc L (.long v :: .int i :: .ref q :: st) h o h' mc ms := by
  subst hi
  subst hh
  have e1 : (nI e).toNatClampNeg = e := nI_clamp (by omega)
  refine ab_step_ok hx (Ps := [vp_in (nI e) x]) (pc' := pc + 1) (L' := L) (st' := st) (h1 := ab_set h q (.inl (.inr (x, vp_updL f e v)))) ?_ (vp_in_nI he (by omega)) k
  simp only [ab_step, ab_last, hg, hq, e1]
theorem AR.lald {n x e q : Nat} {f : Nat → Int64} {i : Int32} (hx : ab_ok M (pc, .laload, 1, n, n, n, .null) = true) (hi : i = nI e) (hg : ab_get h q = some (.inl (.inr (x, f)))) (he : e < x) (hm : x < 2147483648) (k : AR E M d (pc + 1) L (.long (f e) :: st) h o h' mc ms) : AR E M d pc L (.int i :: .ref q :: st) h o h' mc ms := by
  subst hi
  have e1 : (nI e).toNatClampNeg = e := nI_clamp (by omega)
  refine ab_step_ok hx (Ps := [vp_in (nI e) x]) (pc' := pc + 1) (L' := L) (st' := .long (f e) :: st) (h1 := h) ?_ (vp_in_nI he (by omega)) k
  simp only [ab_step, ab_lald, hg, e1]
theorem AR.eq2N {off : Int} {tgt : Nat} {x y : Int32} {a b : Nat} (hd : decode M.bytes pc = .ok (.if_icmp .eq off, 3)) (ht : (pc : Int) + off = (tgt : Int)) (hx : x = nI a) (hy : y = nI b) (ha : a < 2147483648) (hb : b < 2147483648) (kt : a = b → AR E M d tgt L st h o h' mc ms) (kf : ¬ a = b → AR E M d (pc + 3) L st h o h' mc ms) : AR E M d pc L (.int y :: .int x :: st) h o h' mc ms := by
  subst hx
  subst hy
  exact AR.eq2 hd ht (fun z => kt ((nI_eq ha hb).mp z)) (fun z => kf (fun q => z ((nI_eq ha hb).mpr q)))
theorem AR.eqN {off : Int} {tgt : Nat} {x : Int32} {a : Nat} (hd : decode M.bytes pc = .ok (.ifCond .eq off, 3)) (ht : (pc : Int) + off = (tgt : Int)) (hx : x = nI a) (ha : a < 2147483648) (kt : a = 0 → AR E M d tgt L st h o h' mc ms) (kf : ¬ a = 0 → AR E M d (pc + 3) L st h o h' mc ms) : AR E M d pc L (.int x :: st) h o h' mc ms := by
  subst hx
  exact AR.eq hd ht (fun z => kt ((nI_eq ha (by decide)).mp z)) (fun z => kf (fun q => z ((nI_eq (b := 0) ha (by decide)).mpr q)))
theorem AR.ne2N {off : Int} {tgt : Nat} {x y : Int32} {a b : Nat} (hd : decode M.bytes pc = .ok (.if_icmp .ne off, 3)) (ht : (pc : Int) + off = (tgt : Int)) (hx : x = nI a) (hy : y = nI b) (ha : a < 2147483648) (hb : b < 2147483648) (kt : ¬ a = b → AR E M d tgt L st h o h' mc ms) (kf : a = b → AR E M d (pc + 3) L st h o h' mc ms) : AR E M d pc L (.int y :: .int x :: st) h o h' mc ms := by
  subst hx
  subst hy
  exact AR.ne2 hd ht (fun z => kt (fun q => z ((nI_eq ha hb).mpr q))) (fun z => kf ((nI_eq ha hb).mp z))
theorem AR.neN {off : Int} {tgt : Nat} {x : Int32} {a : Nat} (hd : decode M.bytes pc = .ok (.ifCond .ne off, 3)) (ht : (pc : Int) + off = (tgt : Int)) (hx : x = nI a) (ha : a < 2147483648) (kt : ¬ a = 0 → AR E M d tgt L st h o h' mc ms) (kf : a = 0 → AR E M d (pc + 3) L st h o h' mc ms) : AR E M d pc L (.int x :: st) h o h' mc ms := by
  subst hx
  exact AR.ne hd ht (fun z => kt (fun q => z ((nI_eq (b := 0) ha (by decide)).mpr q))) (fun z => kf ((nI_eq ha (by decide)).mp z))
theorem AR.lt2N {off : Int} {tgt : Nat} {x y : Int32} {a b : Nat} (hd : decode M.bytes pc = .ok (.if_icmp .lt off, 3)) (ht : (pc : Int) + off = (tgt : Int)) (hx : x = nI a) (hy : y = nI b) (ha : a < 2147483648) (hb : b < 2147483648) (kt : a < b → AR E M d tgt L st h o h' mc ms) (kf : b ≤ a → AR E M d (pc + 3) L st h o h' mc ms) : AR E M d pc L (.int y :: .int x :: st) h o h' mc ms := by
  subst hx
  subst hy
  exact AR.lt2 hd ht (fun z => kt ((nI_ltI ha hb).mp z)) (fun z => kf (by have := mt (nI_ltI ha hb).mpr z; omega))
theorem AR.ltN {off : Int} {tgt : Nat} {x : Int32} {a : Nat} (hd : decode M.bytes pc = .ok (.ifCond .lt off, 3)) (ht : (pc : Int) + off = (tgt : Int)) (hx : x = nI a) (ha : a < 2147483648) (kt : False → AR E M d tgt L st h o h' mc ms) (kf : True → AR E M d (pc + 3) L st h o h' mc ms) : AR E M d pc L (.int x :: st) h o h' mc ms := by
  subst hx
  exact AR.lt hd ht (fun z => kt (by have := (nI_ltI (b := 0) ha (by decide)).mp z; first | trivial | omega)) (fun z => kf (by have := mt (nI_ltI (b := 0) ha (by decide)).mpr z; first | trivial | omega))
theorem AR.ge2N {off : Int} {tgt : Nat} {x y : Int32} {a b : Nat} (hd : decode M.bytes pc = .ok (.if_icmp .ge off, 3)) (ht : (pc : Int) + off = (tgt : Int)) (hx : x = nI a) (hy : y = nI b) (ha : a < 2147483648) (hb : b < 2147483648) (kt : b ≤ a → AR E M d tgt L st h o h' mc ms) (kf : a < b → AR E M d (pc + 3) L st h o h' mc ms) : AR E M d pc L (.int y :: .int x :: st) h o h' mc ms := by
  subst hx
  subst hy
  exact AR.ge2 hd ht (fun z => kt ((nI_leI hb ha).mp z)) (fun z => kf (by have := mt (nI_leI hb ha).mpr z; omega))
theorem AR.geN {off : Int} {tgt : Nat} {x : Int32} {a : Nat} (hd : decode M.bytes pc = .ok (.ifCond .ge off, 3)) (ht : (pc : Int) + off = (tgt : Int)) (hx : x = nI a) (ha : a < 2147483648) (kt : True → AR E M d tgt L st h o h' mc ms) (kf : False → AR E M d (pc + 3) L st h o h' mc ms) : AR E M d pc L (.int x :: st) h o h' mc ms := by
  subst hx
  exact AR.ge hd ht (fun z => kt (by have := (nI_leI (a := 0) (by decide) ha).mp z; first | trivial | omega)) (fun z => kf (by have := mt (nI_leI (a := 0) (by decide) ha).mpr z; first | trivial | omega))
theorem AR.gt2N {off : Int} {tgt : Nat} {x y : Int32} {a b : Nat} (hd : decode M.bytes pc = .ok (.if_icmp .gt off, 3)) (ht : (pc : Int) + off = (tgt : Int)) (hx : x = nI a) (hy : y = nI b) (ha : a < 2147483648) (hb : b < 2147483648) (kt : b < a → AR E M d tgt L st h o h' mc ms) (kf : a ≤ b → AR E M d (pc + 3) L st h o h' mc ms) : AR E M d pc L (.int y :: .int x :: st) h o h' mc ms := by
  subst hx
  subst hy
  exact AR.gt2 hd ht (fun z => kt ((nI_ltI hb ha).mp z)) (fun z => kf (by have := mt (nI_ltI hb ha).mpr z; omega))
theorem AR.gtN {off : Int} {tgt : Nat} {x : Int32} {a : Nat} (hd : decode M.bytes pc = .ok (.ifCond .gt off, 3)) (ht : (pc : Int) + off = (tgt : Int)) (hx : x = nI a) (ha : a < 2147483648) (kt : 0 < a → AR E M d tgt L st h o h' mc ms) (kf : a = 0 → AR E M d (pc + 3) L st h o h' mc ms) : AR E M d pc L (.int x :: st) h o h' mc ms := by
  subst hx
  exact AR.gt hd ht (fun z => kt (by have := (nI_ltI (a := 0) (by decide) ha).mp z; first | trivial | omega)) (fun z => kf (by have := mt (nI_ltI (a := 0) (by decide) ha).mpr z; first | trivial | omega))
theorem AR.le2N {off : Int} {tgt : Nat} {x y : Int32} {a b : Nat} (hd : decode M.bytes pc = .ok (.if_icmp .le off, 3)) (ht : (pc : Int) + off = (tgt : Int)) (hx : x = nI a) (hy : y = nI b) (ha : a < 2147483648) (hb : b < 2147483648) (kt : a ≤ b → AR E M d tgt L st h o h' mc ms) (kf : b < a → AR E M d (pc + 3) L st h o h' mc ms) : AR E M d pc L (.int y :: .int x :: st) h o h' mc ms := by
  subst hx
  subst hy
  exact AR.le2 hd ht (fun z => kt ((nI_leI ha hb).mp z)) (fun z => kf (by have := mt (nI_leI ha hb).mpr z; omega))
theorem AR.leN {off : Int} {tgt : Nat} {x : Int32} {a : Nat} (hd : decode M.bytes pc = .ok (.ifCond .le off, 3)) (ht : (pc : Int) + off = (tgt : Int)) (hx : x = nI a) (ha : a < 2147483648) (kt : a = 0 → AR E M d tgt L st h o h' mc ms) (kf : 0 < a → AR E M d (pc + 3) L st h o h' mc ms) : AR E M d pc L (.int x :: st) h o h' mc ms := by
  subst hx
  exact AR.le hd ht (fun z => kt (by have := (nI_leI (b := 0) ha (by decide)).mp z; first | trivial | omega)) (fun z => kf (by have := mt (nI_leI (b := 0) ha (by decide)).mpr z; first | trivial | omega))
theorem AR.callS1 {v : Value} (av rest : List Value) (hk : ab_lkS M.own idx Mc av.length is = true) (hd : decode M.bytes pc = .ok (.invokestatic idx, 3)) (hc : CT E Mc d (av) h (.inl (some v)) h1 0 0) (hst : st = av.reverse ++ rest) (hcat : ab_cat rest = true) (k : AR E M (d + 1) (pc + 3) L (v :: rest) h1 o h' mc ms) : AR E M (d + 1) pc L st h o h' mc ms := by
  have q9 := AR.callS (rest := rest) hk hd hc hst hcat k
  rwa [Nat.zero_add, Nat.zero_add] at q9
theorem AR.callS0 (av rest : List Value) (hk : ab_lkS M.own idx Mc av.length is = true) (hd : decode M.bytes pc = .ok (.invokestatic idx, 3)) (hc : CT E Mc d (av) h (.inl (none)) h1 0 0) (hst : st = av.reverse ++ rest) (hcat : ab_cat rest = true) (k : AR E M (d + 1) (pc + 3) L (rest) h1 o h' mc ms) : AR E M (d + 1) pc L st h o h' mc ms := by
  have q9 := AR.callS (rest := rest) hk hd hc hst hcat k
  rwa [Nat.zero_add, Nat.zero_add] at q9
theorem AR.callSx (av rest : List Value) (hk : ab_lkS M.own idx Mc av.length is = true) (hd : decode M.bytes pc = .ok (.invokestatic idx, 3)) (hc : CT E Mc d (av) h (.inr En) h1 mc1 ms1) (hst : st = av.reverse ++ rest) (hcat : ab_cat rest = true) (hh : M.hh = []) : AR E M (d + 1) pc L st h (.inr En) h1 mc1 ms1 := AR.callSX (mc := 0) (ms := 0) (rest := rest) hk hd hc hst hcat (ARX.out hh)
theorem AR.callV1 {v : Value} (q : Nat) {ci : Nat} {fs : List Value} (av rest : List Value) (hk : ab_lkV M.own idx Mc av.length is = true) (hd : decode M.bytes pc = .ok (.invokevirtual idx, 3)) (hg : ab_get h q = some (.inr (ci, fs))) (hci : (vwCl[ci]?).map (·.1) = some Mc.y.cls) (hc : CT E Mc d (.ref q :: av) h (.inl (some v)) h1 0 0) (hst : st = av.reverse ++ .ref q :: rest) (hcat : ab_cat rest = true) (k : AR E M (d + 1) (pc + 3) L (v :: rest) h1 o h' mc ms) : AR E M (d + 1) pc L st h o h' mc ms := by
  have q9 := AR.callV (rest := rest) hk hd hg hci hc hst hcat k
  rwa [Nat.zero_add, Nat.zero_add] at q9
theorem AR.callV0 (q : Nat) {ci : Nat} {fs : List Value} (av rest : List Value) (hk : ab_lkV M.own idx Mc av.length is = true) (hd : decode M.bytes pc = .ok (.invokevirtual idx, 3)) (hg : ab_get h q = some (.inr (ci, fs))) (hci : (vwCl[ci]?).map (·.1) = some Mc.y.cls) (hc : CT E Mc d (.ref q :: av) h (.inl (none)) h1 0 0) (hst : st = av.reverse ++ .ref q :: rest) (hcat : ab_cat rest = true) (k : AR E M (d + 1) (pc + 3) L (rest) h1 o h' mc ms) : AR E M (d + 1) pc L st h o h' mc ms := by
  have q9 := AR.callV (rest := rest) hk hd hg hci hc hst hcat k
  rwa [Nat.zero_add, Nat.zero_add] at q9
theorem AR.callVx (q : Nat) {ci : Nat} {fs : List Value} (av rest : List Value) (hk : ab_lkV M.own idx Mc av.length is = true) (hd : decode M.bytes pc = .ok (.invokevirtual idx, 3)) (hg : ab_get h q = some (.inr (ci, fs))) (hci : (vwCl[ci]?).map (·.1) = some Mc.y.cls) (hc : CT E Mc d (.ref q :: av) h (.inr En) h1 mc1 ms1) (hst : st = av.reverse ++ .ref q :: rest) (hcat : ab_cat rest = true) (hh : M.hh = []) : AR E M (d + 1) pc L st h (.inr En) h1 mc1 ms1 := AR.callVX (mc := 0) (ms := 0) (rest := rest) hk hd hg hci hc hst hcat (ARX.out hh)
theorem AR.retI {v w : Int32} (hd : decode M.bytes pc = .ok (.ireturn, 1)) (hr : M.ret = some .int) (hv : v = w) (hh : h = h') : AR E M d pc L [.int v] h (.inl (some (.int w))) h' mc ms := by subst hv; subst hh; exact AR.reti hd hr
theorem AR.retZ {v w : Int32} (hd : decode M.bytes pc = .ok (.ireturn, 1)) (hr : M.ret = some .boolean) (hz : v = 0 ∨ v = 1) (hv : v = w) (hh : h = h') : AR E M d pc L [.int v] h (.inl (some (.int w))) h' mc ms := by subst hv; subst hh; exact AR.retz hd hr hz
theorem AR.retL {v w : Int64} (hd : decode M.bytes pc = .ok (.lreturn, 1)) (hr : M.ret = some .long) (hv : v = w) (hh : h = h') : AR E M d pc L [.long v] h (.inl (some (.long w))) h' mc ms := by subst hv; subst hh; exact AR.retl hd hr
theorem AR.retD {v w : UInt64} (hd : decode M.bytes pc = .ok (.dreturn, 1)) (hr : M.ret = some .double) (hv : v = w) (hh : h = h') : AR E M d pc L [.double v] h (.inl (some (.double w))) h' mc ms := by subst hv; subst hh; exact AR.retd hd hr
theorem AR.retV (hd : decode M.bytes pc = .ok (.return_, 1)) (hr : M.ret = none) (hh : h = h') : AR E M d pc L [] h (.inl none) h' mc ms := by subst hh; exact AR.retv hd hr
/-- a counted loop at pc -/
theorem AR.loopN (n : Nat) (Lf : Nat → AL) (hf : Nat → AH) (I : Nat → Prop) (hs : ∀ j, j < n → I j → (I (j + 1) → AR E M d pc (Lf (j + 1)) st (hf (j + 1)) o h' mc ms) → AR E M d pc (Lf j) st (hf j) o h' mc ms) (he : I n → AR E M d pc (Lf n) st (hf n) o h' mc ms) : ∀ (j0 : Nat), j0 ≤ n → I j0 → AR E M d pc (Lf j0) st (hf j0) o h' mc ms := by
  intro j0 hj hI
  obtain ⟨k, hk⟩ : ∃ k, n = j0 + k := ⟨n - j0, by omega⟩
  induction k generalizing j0 with
  | zero =>
    have : j0 = n := by omega
    subst this
    exact he hI
  | succ k ih => exact hs j0 (by omega) hI (fun hI2 => ih (j0 + 1) (by omega) hI2 (by omega))
/-- a loop that counts down to 0 -/
theorem AR.loopD (Lf : Nat → AL) (hf : Nat → AH) (I : Nat → Prop) (hs : ∀ j, I (j + 1) → (I j → AR E M d pc (Lf j) st (hf j) o h' mc ms) → AR E M d pc (Lf (j + 1)) st (hf (j + 1)) o h' mc ms) (he : I 0 → AR E M d pc (Lf 0) st (hf 0) o h' mc ms) : ∀ (j0 : Nat), I j0 → AR E M d pc (Lf j0) st (hf j0) o h' mc ms := by
  intro j0
  induction j0 with
  | zero => exact he
  | succ j ih => exact fun hI => hs j hI (fun hI2 => ih hI2)
end WK
end
section
/-! the heap of this claim: old arrays; the archive and its tables; the text; the plan; the reference; the law's own array; what is made later -/
abbrev hp (ol ar te pl mo ou tl : List AC) : AH := [ol, ar, te, pl, mo, ou, tl]
def tu (T : Nat → Nat → Int32) (j : Nat) (f : Nat → Int32) : Nat → Nat → Int32 := fun i => if i = j then f else T i
def mo (z sa ro te fr to un ga pi be : Nat → Int32) (bm en sta sv ln th : Int32) (hh : Int64) : List AC :=
  [.inr (5, [.ref 16385, .ref 16386, .ref 16387, .ref 16388, .ref 16389, .ref 16390, .ref 16391, .ref 16392, .ref 16393, .ref 16394, .int bm, .int en, .int sta, .int sv, .int ln, .int th, .long hh]),
   .inl (.inl (1863, z)), .inl (.inl (1863, sa)), .inl (.inl (11178, ro)), .inl (.inl (60, te)), .inl (.inl (16, fr)), .inl (.inl (16, to)), .inl (.inl (16, un)), .inl (.inl (48, ga)), .inl (.inl (4, pi)), .inl (.inl (4, be))]
def ar (T K : Nat → Nat → Int32) (os sc : Int32) : List AC :=
  [.inr (4, [.ref 4097, .ref 8192, .ref 12288]), .inr (0, [.ref 4098, .ref 4101, .ref 4104, .ref 4107, .ref 4110, .ref 4113, .int os, .int sc]),
   .inr (3, [.int (nI 13), .int (nI 7), .ref 4099, .ref 4100]), .inl (.inl (91, T 0)), .inl (.inl (546, K 0)),
   .inr (3, [.int (nI 13), .int (nI 120), .ref 4102, .ref 4103]), .inl (.inl (1560, T 1)), .inl (.inl (9360, K 1)),
   .inr (3, [.int (nI 5), .int (nI 5), .ref 4105, .ref 4106]), .inl (.inl (25, T 2)), .inl (.inl (150, K 2)),
   .inr (3, [.int (nI 3), .int (nI 4), .ref 4108, .ref 4109]), .inl (.inl (12, T 3)), .inl (.inl (72, K 3)),
   .inr (3, [.int (nI 60), .int (nI 5), .ref 4111, .ref 4112]), .inl (.inl (300, T 4)), .inl (.inl (1800, K 4)),
   .inr (3, [.int (nI 1), .int (nI 11), .ref 4114, .ref 4115]), .inl (.inl (11, T 5)), .inl (.inl (66, K 5))]
def te_ (tc tp : Nat → Int32) (tl_ tn trd tv tdg tf tla : Int32) : List AC :=
  [.inr (1, [.ref 8193, .ref 8194, .int tl_, .int tn, .int trd, .int tv, .int tdg, .int tf, .int tla]), .inl (.inl (60, tc)), .inr (3, [.int (nI 10), .int (nI 3), .ref 8195, .ref 8196]), .inl (.inl (30, tp)), .inl (.inl (0, fun _ => 0))]
def pl (pg ph pc : Nat → Int32) (pm : Int32) : List AC :=
  [.inr (2, [.ref 12289, .ref 12292, .ref 12295, .int pm]),
   .inr (3, [.int (nI 4), .int (nI 12), .ref 12290, .ref 12291]), .inl (.inl (48, pg)), .inl (.inl (0, fun _ => 0)),
   .inr (3, [.int (nI 1), .int (nI 5), .ref 12293, .ref 12294]), .inl (.inl (5, ph)), .inl (.inl (0, fun _ => 0)),
   .inr (3, [.int (nI 2), .int (nI 4), .ref 12296, .ref 12297]), .inl (.inl (8, pc)), .inl (.inl (0, fun _ => 0))]
def ou (ov : Nat → Int64) : List AC := [.inl (.inr (1, ov))]
abbrev M_X0_init : AM := (⟨"LeafCradles$Archive", "<init>", "()V"⟩, prog_2_method_1_code, 1, none, [])
abbrev M_X0_number : AM := (⟨"LeafCradles$Archive", "number", "(I)I"⟩, prog_2_method_2_code, 2, (some .int), [])
abbrev M_X0_replaceNumber : AM := (⟨"LeafCradles$Archive", "replaceNumber", "(II)I"⟩, prog_2_method_3_code, 4, (some .int), [])
abbrev M_X0_saves : AM := (⟨"LeafCradles$Archive", "saves", "()I"⟩, prog_2_method_4_code, 1, (some .int), [])
abbrev M_X0_save : AM := (⟨"LeafCradles$Archive", "save", "()V"⟩, prog_2_method_5_code, 2, none, [])
abbrev M_X0_restore : AM := (⟨"LeafCradles$Archive", "restore", "()I"⟩, prog_2_method_6_code, 2, (some .int), [])
abbrev M_X0_newVolume : AM := (⟨"LeafCradles$Archive", "newVolume", "(IIII)I"⟩, prog_2_method_7_code, 6, (some .int), [])
abbrev M_X0_newCradle : AM := (⟨"LeafCradles$Archive", "newCradle", "(II)I"⟩, prog_2_method_8_code, 4, (some .int), [])
abbrev M_X0_newCarrier : AM := (⟨"LeafCradles$Archive", "newCarrier", "()I"⟩, prog_2_method_9_code, 2, (some .int), [])
abbrev M_X0_volumeFact : AM := (⟨"LeafCradles$Archive", "volumeFact", "(II)I"⟩, prog_2_method_10_code, 3, (some .int), [])
abbrev M_X0_leafFact : AM := (⟨"LeafCradles$Archive", "leafFact", "(III)I"⟩, prog_2_method_11_code, 4, (some .int), [])
abbrev M_X0_cradleFact : AM := (⟨"LeafCradles$Archive", "cradleFact", "(II)I"⟩, prog_2_method_12_code, 3, (some .int), [])
abbrev M_X0_carrierFact : AM := (⟨"LeafCradles$Archive", "carrierFact", "(II)I"⟩, prog_2_method_13_code, 3, (some .int), [])
abbrev M_X0_entryFact : AM := (⟨"LeafCradles$Archive", "entryFact", "(II)I"⟩, prog_2_method_14_code, 3, (some .int), [])
abbrev M_X0_total : AM := (⟨"LeafCradles$Archive", "total", "(I)I"⟩, prog_2_method_15_code, 2, (some .int), [])
abbrev M_X0_sumOverVolumes : AM := (⟨"LeafCradles$Archive", "sumOverVolumes", "(I)I"⟩, prog_2_method_16_code, 4, (some .int), [])
abbrev M_X0_shareOfOpenLeaves : AM := (⟨"LeafCradles$Archive", "shareOfOpenLeaves", "()D"⟩, prog_2_method_17_code, 2, (some .double), [])
abbrev M_X0_freeCradles : AM := (⟨"LeafCradles$Archive", "freeCradles", "()I"⟩, prog_2_method_18_code, 3, (some .int), [])
abbrev M_X0_leavesInCondition : AM := (⟨"LeafCradles$Archive", "leavesInCondition", "(II)I"⟩, prog_2_method_19_code, 5, (some .int), [])
abbrev M_X0_openLeaves : AM := (⟨"LeafCradles$Archive", "openLeaves", "(I)I"⟩, prog_2_method_20_code, 4, (some .int), [])
abbrev M_X0_scansOf : AM := (⟨"LeafCradles$Archive", "scansOf", "(I)I"⟩, prog_2_method_21_code, 4, (some .int), [])
abbrev M_X0_isOpen : AM := (⟨"LeafCradles$Archive", "isOpen", "(II)Z"⟩, prog_2_method_22_code, 4, (some .boolean), [])
abbrev M_X0_nextLeaf : AM := (⟨"LeafCradles$Archive", "nextLeaf", "(I)I"⟩, prog_2_method_23_code, 5, (some .int), [])
abbrev M_X0_isFree : AM := (⟨"LeafCradles$Archive", "isFree", "(I)Z"⟩, prog_2_method_24_code, 2, (some .boolean), [])
abbrev M_X0_isInItsBox : AM := (⟨"LeafCradles$Archive", "isInItsBox", "(I)Z"⟩, prog_2_method_25_code, 2, (some .boolean), [])
abbrev M_X0_isLargeEnough : AM := (⟨"LeafCradles$Archive", "isLargeEnough", "(II)Z"⟩, prog_2_method_26_code, 3, (some .boolean), [])
abbrev M_X0_isGentleEnough : AM := (⟨"LeafCradles$Archive", "isGentleEnough", "(II)Z"⟩, prog_2_method_27_code, 3, (some .boolean), [])
abbrev M_X0_reasonOfRest : AM := (⟨"LeafCradles$Archive", "reasonOfRest", "(I)I"⟩, prog_2_method_28_code, 3, (some .int), [])
abbrev M_X0_reasonAgainst : AM := (⟨"LeafCradles$Archive", "reasonAgainst", "(III)I"⟩, prog_2_method_29_code, 4, (some .int), [])
abbrev M_X0_mayTakeBack : AM := (⟨"LeafCradles$Archive", "mayTakeBack", "(II)Z"⟩, prog_2_method_30_code, 3, (some .boolean), [])
abbrev M_X0_placeAt : AM := (⟨"LeafCradles$Archive", "placeAt", "(II)I"⟩, prog_2_method_31_code, 4, (some .int), [])
abbrev M_X0_minutesOfWay : AM := (⟨"LeafCradles$Archive", "minutesOfWay", "(II)I"⟩, prog_2_method_32_code, 4, (some .int), [])
abbrev M_X0_quickestCarrier : AM := (⟨"LeafCradles$Archive", "quickestCarrier", "(I)I"⟩, prog_2_method_33_code, 6, (some .int), [])
abbrev M_X0_startBringing : AM := (⟨"LeafCradles$Archive", "startBringing", "(III)I"⟩, prog_2_method_34_code, 4, (some .int), [])
abbrev M_X0_startTakingBack : AM := (⟨"LeafCradles$Archive", "startTakingBack", "(II)I"⟩, prog_2_method_35_code, 4, (some .int), [])
abbrev M_X0_startWay : AM := (⟨"LeafCradles$Archive", "startWay", "(III)I"⟩, prog_2_method_36_code, 6, (some .int), [])
abbrev M_X0_letMinutesPass : AM := (⟨"LeafCradles$Archive", "letMinutesPass", "(I)I"⟩, prog_2_method_37_code, 6, (some .int), [])
abbrev M_X0_workFor : AM := (⟨"LeafCradles$Archive", "workFor", "(III)I"⟩, prog_2_method_38_code, 9, (some .int), [])
abbrev M_X0_scan : AM := (⟨"LeafCradles$Archive", "scan", "(II)V"⟩, prog_2_method_39_code, 3, none, [])
abbrev M_X0_findFaulty : AM := (⟨"LeafCradles$Archive", "findFaulty", "(II)I"⟩, prog_2_method_40_code, 3, (some .int), [])
abbrev M_X0_barLeaves : AM := (⟨"LeafCradles$Archive", "barLeaves", "(IIII)V"⟩, prog_2_method_41_code, 6, none, [])
abbrev M_X0_barredLeaves : AM := (⟨"LeafCradles$Archive", "barredLeaves", "(I)I"⟩, prog_2_method_42_code, 4, (some .int), [])
abbrev M_X0_copyForTrial : AM := (⟨"LeafCradles$Archive", "copyForTrial", "(II)V"⟩, prog_2_method_43_code, 3, none, [])
abbrev M_X0_scansIfThere : AM := (⟨"LeafCradles$Archive", "scansIfThere", "(III)I"⟩, prog_2_method_44_code, 4, (some .int), [])
abbrev M_X0_scansOnCradleIn : AM := (⟨"LeafCradles$Archive", "scansOnCradleIn", "(II)I"⟩, prog_2_method_45_code, 4, (some .int), [])
abbrev M_X0_scansIn : AM := (⟨"LeafCradles$Archive", "scansIn", "(I)I"⟩, prog_2_method_46_code, 4, (some .int), [])
abbrev M_X0_minutesUntilDone : AM := (⟨"LeafCradles$Archive", "minutesUntilDone", "()I"⟩, prog_2_method_47_code, 6, (some .int), [])
abbrev M_X1_init : AM := (⟨"LeafCradles$BarText", "<init>", "()V"⟩, prog_3_method_1_code, 1, none, [])
abbrev M_X1_length : AM := (⟨"LeafCradles$BarText", "length", "()I"⟩, prog_3_method_2_code, 1, (some .int), [])
abbrev M_X1_codeAt : AM := (⟨"LeafCradles$BarText", "codeAt", "(I)I"⟩, prog_3_method_3_code, 2, (some .int), [])
abbrev M_X1_add : AM := (⟨"LeafCradles$BarText", "add", "(I)I"⟩, prog_3_method_4_code, 2, (some .int), [])
abbrev M_X1_empty : AM := (⟨"LeafCradles$BarText", "empty", "()I"⟩, prog_3_method_5_code, 2, (some .int), [])
abbrev M_X1_read : AM := (⟨"LeafCradles$BarText", "read", "()I"⟩, prog_3_method_6_code, 2, (some .int), [])
abbrev M_X1_isComplete : AM := (⟨"LeafCradles$BarText", "isComplete", "()Z"⟩, prog_3_method_7_code, 1, (some .boolean), [])
abbrev M_X1_partCount : AM := (⟨"LeafCradles$BarText", "partCount", "()I"⟩, prog_3_method_8_code, 1, (some .int), [])
abbrev M_X1_partFact : AM := (⟨"LeafCradles$BarText", "partFact", "(II)I"⟩, prog_3_method_9_code, 3, (some .int), [])
abbrev M_X1_greatestLeaf : AM := (⟨"LeafCradles$BarText", "greatestLeaf", "()I"⟩, prog_3_method_10_code, 3, (some .int), [])
abbrev M_X1_begin : AM := (⟨"LeafCradles$BarText", "begin", "(I)V"⟩, prog_3_method_11_code, 2, none, [])
abbrev M_X1_accepts : AM := (⟨"LeafCradles$BarText", "accepts", "(I)Z"⟩, prog_3_method_12_code, 2, (some .boolean), [])
abbrev M_X1_acceptsDash : AM := (⟨"LeafCradles$BarText", "acceptsDash", "()Z"⟩, prog_3_method_13_code, 1, (some .boolean), [])
abbrev M_X1_acceptsColon : AM := (⟨"LeafCradles$BarText", "acceptsColon", "()Z"⟩, prog_3_method_14_code, 1, (some .boolean), [])
abbrev M_X1_acceptsComma : AM := (⟨"LeafCradles$BarText", "acceptsComma", "()Z"⟩, prog_3_method_15_code, 1, (some .boolean), [])
abbrev M_X1_acceptsDigit : AM := (⟨"LeafCradles$BarText", "acceptsDigit", "(I)Z"⟩, prog_3_method_16_code, 4, (some .boolean), [])
abbrev M_X1_leastNumber : AM := (⟨"LeafCradles$BarText", "leastNumber", "()I"⟩, prog_3_method_17_code, 1, (some .int), [])
abbrev M_X1_greatestNumber : AM := (⟨"LeafCradles$BarText", "greatestNumber", "()I"⟩, prog_3_method_18_code, 1, (some .int), [])
abbrev M_X1_beginsNumber : AM := (⟨"LeafCradles$BarText", "beginsNumber", "(III)Z"⟩, prog_3_method_19_code, 6, (some .boolean), [])
abbrev M_X1_keepPart : AM := (⟨"LeafCradles$BarText", "keepPart", "()V"⟩, prog_3_method_20_code, 1, none, [])
abbrev M_X2_init : AM := (⟨"LeafCradles$LoadPlan", "<init>", "()V"⟩, prog_4_method_1_code, 1, none, [])
abbrev M_X2_make : AM := (⟨"LeafCradles$LoadPlan", "make", "(LLeafCradles$Archive;I)V"⟩, prog_4_method_2_code, 7, none, [])
abbrev M_X2_answer : AM := (⟨"LeafCradles$LoadPlan", "answer", "(I)I"⟩, prog_4_method_3_code, 2, (some .int), [])
abbrev M_X2_gainOf : AM := (⟨"LeafCradles$LoadPlan", "gainOf", "(LLeafCradles$Archive;III)I"⟩, prog_4_method_4_code, 5, (some .int), [])
abbrev M_X2_fill : AM := (⟨"LeafCradles$LoadPlan", "fill", "(LLeafCradles$LoadPlan;III)V"⟩, prog_4_method_5_code, 6, none, [])
abbrev M_X2_note : AM := (⟨"LeafCradles$LoadPlan", "note", "(I)V"⟩, prog_4_method_6_code, 2, none, [])
abbrev M_X3_init : AM := (⟨"LeafCradles$Table", "<init>", "(III)V"⟩, prog_5_method_1_code, 4, none, [])
abbrev M_X3_at : AM := (⟨"LeafCradles$Table", "at", "(II)I"⟩, prog_5_method_2_code, 3, (some .int), [])
abbrev M_X3_put : AM := (⟨"LeafCradles$Table", "put", "(III)V"⟩, prog_5_method_3_code, 4, none, [])
abbrev M_X3_add : AM := (⟨"LeafCradles$Table", "add", "(III)V"⟩, prog_5_method_4_code, 4, none, [])
abbrev M_X3_copyRow : AM := (⟨"LeafCradles$Table", "copyRow", "(II)V"⟩, prog_5_method_5_code, 3, none, [])
abbrev M_X3_keep : AM := (⟨"LeafCradles$Table", "keep", "(I)V"⟩, prog_5_method_6_code, 2, none, [])
abbrev M_X3_fetch : AM := (⟨"LeafCradles$Table", "fetch", "(I)V"⟩, prog_5_method_7_code, 2, none, [])
abbrev M_X3_hasCopy : AM := (⟨"LeafCradles$Table", "hasCopy", "(I)Z"⟩, prog_5_method_8_code, 2, (some .boolean), [])
abbrev M_X4_init : AM := (⟨"LeafCradles", "<init>", "()V"⟩, prog_1_method_1_code, 1, none, [])
abbrev M_X4_addVolume : AM := (⟨"LeafCradles", "addVolume", "(IIII)I"⟩, prog_1_method_2_code, 5, (some .int), [])
abbrev M_X4_addCradle : AM := (⟨"LeafCradles", "addCradle", "(II)I"⟩, prog_1_method_3_code, 3, (some .int), [])
abbrev M_X4_addCarrier : AM := (⟨"LeafCradles", "addCarrier", "()I"⟩, prog_1_method_4_code, 1, (some .int), [])
abbrev M_X4_set : AM := (⟨"LeafCradles", "set", "(II)I"⟩, prog_1_method_5_code, 3, (some .int), [])
abbrev M_X4_setYear : AM := (⟨"LeafCradles", "setYear", "(I)I"⟩, prog_1_method_6_code, 2, (some .int), [])
abbrev M_X4_bring : AM := (⟨"LeafCradles", "bring", "(III)I"⟩, prog_1_method_7_code, 4, (some .int), [])
abbrev M_X4_takeBack : AM := (⟨"LeafCradles", "takeBack", "(II)I"⟩, prog_1_method_8_code, 3, (some .int), [])
abbrev M_X4_pass : AM := (⟨"LeafCradles", "pass", "(I)I"⟩, prog_1_method_9_code, 2, (some .int), [])
abbrev M_X4_reject : AM := (⟨"LeafCradles", "reject", "(II)I"⟩, prog_1_method_10_code, 3, (some .int), [])
abbrev M_X4_append : AM := (⟨"LeafCradles", "append", "(I)I"⟩, prog_1_method_11_code, 2, (some .int), [])
abbrev M_X4_clearBuffer : AM := (⟨"LeafCradles", "clearBuffer", "()I"⟩, prog_1_method_12_code, 1, (some .int), [])
abbrev M_X4_firstError : AM := (⟨"LeafCradles", "firstError", "()I"⟩, prog_1_method_13_code, 1, (some .int), [])
abbrev M_X4_bar : AM := (⟨"LeafCradles", "bar", "(I)I"⟩, prog_1_method_14_code, 5, (some .int), [])
abbrev M_X4_undo : AM := (⟨"LeafCradles", "undo", "()I"⟩, prog_1_method_15_code, 1, (some .int), [])
abbrev M_X4_volume : AM := (⟨"LeafCradles", "volume", "(II)I"⟩, prog_1_method_16_code, 3, (some .int), [])
abbrev M_X4_leaf : AM := (⟨"LeafCradles", "leaf", "(III)I"⟩, prog_1_method_17_code, 4, (some .int), [])
abbrev M_X4_cradle : AM := (⟨"LeafCradles", "cradle", "(II)I"⟩, prog_1_method_18_code, 3, (some .int), [])
abbrev M_X4_carrier : AM := (⟨"LeafCradles", "carrier", "(II)I"⟩, prog_1_method_19_code, 3, (some .int), [])
abbrev M_X4_log : AM := (⟨"LeafCradles", "log", "(II)I"⟩, prog_1_method_20_code, 3, (some .int), [])
abbrev M_X4_whereAt : AM := (⟨"LeafCradles", "whereAt", "(II)I"⟩, prog_1_method_21_code, 3, (some .int), [])
abbrev M_X4_count : AM := (⟨"LeafCradles", "count", "(I)I"⟩, prog_1_method_22_code, 2, (some .int), [])
abbrev M_X4_setting : AM := (⟨"LeafCradles", "setting", "(I)I"⟩, prog_1_method_23_code, 2, (some .int), [])
abbrev M_X4_whyNot : AM := (⟨"LeafCradles", "whyNot", "(III)I"⟩, prog_1_method_24_code, 4, (some .int), [])
abbrev M_X4_ifPassed : AM := (⟨"LeafCradles", "ifPassed", "(II)I"⟩, prog_1_method_25_code, 3, (some .int), [])
abbrev M_X4_doneIn : AM := (⟨"LeafCradles", "doneIn", "()I"⟩, prog_1_method_26_code, 1, (some .int), [])
abbrev M_X4_quickest : AM := (⟨"LeafCradles", "quickest", "(I)I"⟩, prog_1_method_27_code, 2, (some .int), [])
abbrev M_X4_bestLoad : AM := (⟨"LeafCradles", "bestLoad", "(II)I"⟩, prog_1_method_28_code, 3, (some .int), [])
abbrev M_X4_openShare : AM := (⟨"LeafCradles", "openShare", "()D"⟩, prog_1_method_29_code, 1, (some .double), [])
abbrev M_X4_digest : AM := (⟨"LeafCradles", "digest", "()J"⟩, prog_1_method_30_code, 4, (some .long), [])
abbrev M_X4_mix : AM := (⟨"LeafCradles", "mix", "(JJ)J"⟩, prog_1_method_31_code, 4, (some .long), [])
abbrev M_X4_mixVolumes : AM := (⟨"LeafCradles", "mixVolumes", "(J)J"⟩, prog_1_method_32_code, 8, (some .long), [])
abbrev M_X4_mixCradles : AM := (⟨"LeafCradles", "mixCradles", "(J)J"⟩, prog_1_method_33_code, 7, (some .long), [])
abbrev M_X4_mixCarriers : AM := (⟨"LeafCradles", "mixCarriers", "(J)J"⟩, prog_1_method_34_code, 7, (some .long), [])
abbrev M_X4_mixEntries : AM := (⟨"LeafCradles", "mixEntries", "(J)J"⟩, prog_1_method_35_code, 7, (some .long), [])
abbrev M_X4_mixText : AM := (⟨"LeafCradles", "mixText", "(J)J"⟩, prog_1_method_36_code, 6, (some .long), [])
abbrev M_X4_bitsOfShare : AM := (⟨"LeafCradles", "bitsOfShare", "(D)J"⟩, prog_1_method_37_code, 8, (some .long), [])
abbrev M_X4_leastOfSetting : AM := (⟨"LeafCradles", "leastOfSetting", "(I)I"⟩, prog_1_method_38_code, 1, (some .int), [])
abbrev M_X4_greatestOfSetting : AM := (⟨"LeafCradles", "greatestOfSetting", "(I)I"⟩, prog_1_method_39_code, 1, (some .int), [])
abbrev M_X4_requireRange : AM := (⟨"LeafCradles", "requireRange", "(III)V"⟩, prog_1_method_40_code, 3, none, [])
abbrev M_X4_requireIndex : AM := (⟨"LeafCradles", "requireIndex", "(II)V"⟩, prog_1_method_41_code, 2, none, [])
abbrev M_X4_requireVolume : AM := (⟨"LeafCradles", "requireVolume", "(I)V"⟩, prog_1_method_42_code, 2, none, [])
abbrev M_X4_requireCradle : AM := (⟨"LeafCradles", "requireCradle", "(I)V"⟩, prog_1_method_43_code, 2, none, [])
abbrev M_X4_requireCarrier : AM := (⟨"LeafCradles", "requireCarrier", "(I)V"⟩, prog_1_method_44_code, 2, none, [])
abbrev M_X5_init : AM := (⟨"LeafCradlesModel", "<init>", "()V"⟩, prog_7_method_1_code, 1, none, [])
abbrev M_X5_thrown : AM := (⟨"LeafCradlesModel", "thrown", "()I"⟩, prog_7_method_2_code, 1, (some .int), [])
abbrev M_X5_fails : AM := (⟨"LeafCradlesModel", "fails", "(I)I"⟩, prog_7_method_3_code, 2, (some .int), [])
abbrev M_X5_within : AM := (⟨"LeafCradlesModel", "within", "(III)Z"⟩, prog_7_method_4_code, 3, (some .boolean), [])
abbrev M_X5_isVolume : AM := (⟨"LeafCradlesModel", "isVolume", "(I)Z"⟩, prog_7_method_5_code, 2, (some .boolean), [])
abbrev M_X5_isCradle : AM := (⟨"LeafCradlesModel", "isCradle", "(I)Z"⟩, prog_7_method_6_code, 2, (some .boolean), [])
abbrev M_X5_isCarrier : AM := (⟨"LeafCradlesModel", "isCarrier", "(I)Z"⟩, prog_7_method_7_code, 2, (some .boolean), [])
abbrev M_X5_ofVolume : AM := (⟨"LeafCradlesModel", "ofVolume", "(II)I"⟩, prog_7_method_8_code, 3, (some .int), [])
abbrev M_X5_ofCradle : AM := (⟨"LeafCradlesModel", "ofCradle", "(II)I"⟩, prog_7_method_9_code, 3, (some .int), [])
abbrev M_X5_ofCarrier : AM := (⟨"LeafCradlesModel", "ofCarrier", "(II)I"⟩, prog_7_method_10_code, 3, (some .int), [])
abbrev M_X5_ofLeaf : AM := (⟨"LeafCradlesModel", "ofLeaf", "(III)I"⟩, prog_7_method_11_code, 4, (some .int), [])
abbrev M_X5_save : AM := (⟨"LeafCradlesModel", "save", "()V"⟩, prog_7_method_12_code, 2, none, [])
abbrev M_X5_keep : AM := (⟨"LeafCradlesModel", "keep", "()V"⟩, prog_7_method_13_code, 2, none, [])
abbrev M_X5_bring0 : AM := (⟨"LeafCradlesModel", "bring0", "()V"⟩, prog_7_method_14_code, 2, none, [])
abbrev M_X5_addVolume : AM := (⟨"LeafCradlesModel", "addVolume", "(IIII)I"⟩, prog_7_method_15_code, 6, (some .int), [])
abbrev M_X5_addCradle : AM := (⟨"LeafCradlesModel", "addCradle", "(II)I"⟩, prog_7_method_16_code, 4, (some .int), [])
abbrev M_X5_addCarrier : AM := (⟨"LeafCradlesModel", "addCarrier", "()I"⟩, prog_7_method_17_code, 1, (some .int), [])
abbrev M_X5_set : AM := (⟨"LeafCradlesModel", "set", "(II)I"⟩, prog_7_method_18_code, 5, (some .int), [])
abbrev M_X5_setYear : AM := (⟨"LeafCradlesModel", "setYear", "(I)I"⟩, prog_7_method_19_code, 3, (some .int), [])
abbrev M_X5_way : AM := (⟨"LeafCradlesModel", "way", "(II)I"⟩, prog_7_method_20_code, 4, (some .int), [])
abbrev M_X5_volumeOn : AM := (⟨"LeafCradlesModel", "volumeOn", "(I)I"⟩, prog_7_method_21_code, 4, (some .int), [])
abbrev M_X5_nextLeaf : AM := (⟨"LeafCradlesModel", "nextLeaf", "(I)I"⟩, prog_7_method_22_code, 6, (some .int), [])
abbrev M_X5_isLogFull : AM := (⟨"LeafCradlesModel", "isLogFull", "()Z"⟩, prog_7_method_23_code, 1, (some .boolean), [])
abbrev M_X5_reason : AM := (⟨"LeafCradlesModel", "reason", "(III)I"⟩, prog_7_method_24_code, 4, (some .int), [])
abbrev M_X5_goes : AM := (⟨"LeafCradlesModel", "goes", "(III)I"⟩, prog_7_method_25_code, 7, (some .int), [])
abbrev M_X5_bring : AM := (⟨"LeafCradlesModel", "bring", "(III)I"⟩, prog_7_method_26_code, 4, (some .int), [])
abbrev M_X5_takeBack : AM := (⟨"LeafCradlesModel", "takeBack", "(II)I"⟩, prog_7_method_27_code, 3, (some .int), [])
abbrev M_X5_idle : AM := (⟨"LeafCradlesModel", "idle", "(I)I"⟩, prog_7_method_28_code, 3, (some .int), [])
abbrev M_X5_scans : AM := (⟨"LeafCradlesModel", "scans", "(I)I"⟩, prog_7_method_29_code, 5, (some .int), [])
abbrev M_X5_minute : AM := (⟨"LeafCradlesModel", "minute", "()I"⟩, prog_7_method_30_code, 3, (some .int), [])
abbrev M_X5_pass : AM := (⟨"LeafCradlesModel", "pass", "(I)I"⟩, prog_7_method_31_code, 4, (some .int), [])
abbrev M_X5_leavesWith : AM := (⟨"LeafCradlesModel", "leavesWith", "(II)I"⟩, prog_7_method_32_code, 5, (some .int), [])
abbrev M_X5_isLeaf : AM := (⟨"LeafCradlesModel", "isLeaf", "(II)Z"⟩, prog_7_method_33_code, 3, (some .boolean), [])
abbrev M_X5_reject : AM := (⟨"LeafCradlesModel", "reject", "(II)I"⟩, prog_7_method_34_code, 3, (some .int), [])
abbrev M_X5_append : AM := (⟨"LeafCradlesModel", "append", "(I)I"⟩, prog_7_method_35_code, 2, (some .int), [])
abbrev M_X5_clearBuffer : AM := (⟨"LeafCradlesModel", "clearBuffer", "()I"⟩, prog_7_method_36_code, 2, (some .int), [])
abbrev M_X5_goesOn : AM := (⟨"LeafCradlesModel", "goesOn", "(ZI)Z"⟩, prog_7_method_37_code, 3, (some .boolean), [])
abbrev M_X5_takesFirst : AM := (⟨"LeafCradlesModel", "takesFirst", "(I)Z"⟩, prog_7_method_38_code, 4, (some .boolean), [])
abbrev M_X5_takesSecond : AM := (⟨"LeafCradlesModel", "takesSecond", "(I)Z"⟩, prog_7_method_39_code, 5, (some .boolean), [])
abbrev M_X5_takesYear : AM := (⟨"LeafCradlesModel", "takesYear", "(I)Z"⟩, prog_7_method_40_code, 4, (some .boolean), [])
abbrev M_X5_takes : AM := (⟨"LeafCradlesModel", "takes", "(I)Z"⟩, prog_7_method_41_code, 3, (some .boolean), [])
abbrev M_X5_read : AM := (⟨"LeafCradlesModel", "read", "()I"⟩, prog_7_method_42_code, 2, (some .int), [])
abbrev M_X5_firstError : AM := (⟨"LeafCradlesModel", "firstError", "()I"⟩, prog_7_method_43_code, 1, (some .int), [])
abbrev M_X5_barred : AM := (⟨"LeafCradlesModel", "barred", "(I)I"⟩, prog_7_method_44_code, 4, (some .int), [])
abbrev M_X5_lastOf : AM := (⟨"LeafCradlesModel", "lastOf", "(I)I"⟩, prog_7_method_45_code, 2, (some .int), [])
abbrev M_X5_bar : AM := (⟨"LeafCradlesModel", "bar", "(I)I"⟩, prog_7_method_46_code, 4, (some .int), [])
abbrev M_X5_undo : AM := (⟨"LeafCradlesModel", "undo", "()I"⟩, prog_7_method_47_code, 2, (some .int), [])
abbrev M_X5_isOpen : AM := (⟨"LeafCradlesModel", "isOpen", "(II)Z"⟩, prog_7_method_48_code, 3, (some .boolean), [])
abbrev M_X5_open : AM := (⟨"LeafCradlesModel", "open", "(I)I"⟩, prog_7_method_49_code, 4, (some .int), [])
abbrev M_X5_scanned : AM := (⟨"LeafCradlesModel", "scanned", "(I)I"⟩, prog_7_method_50_code, 4, (some .int), [])
abbrev M_X5_volumeNow : AM := (⟨"LeafCradlesModel", "volumeNow", "(II)I"⟩, prog_7_method_51_code, 3, (some .int), [])
abbrev M_X5_volume : AM := (⟨"LeafCradlesModel", "volume", "(II)I"⟩, prog_7_method_52_code, 3, (some .int), [])
abbrev M_X5_leafNow : AM := (⟨"LeafCradlesModel", "leafNow", "(III)I"⟩, prog_7_method_53_code, 4, (some .int), [])
abbrev M_X5_leaf : AM := (⟨"LeafCradlesModel", "leaf", "(III)I"⟩, prog_7_method_54_code, 4, (some .int), [])
abbrev M_X5_cradleNow : AM := (⟨"LeafCradlesModel", "cradleNow", "(II)I"⟩, prog_7_method_55_code, 3, (some .int), [])
abbrev M_X5_cradle : AM := (⟨"LeafCradlesModel", "cradle", "(II)I"⟩, prog_7_method_56_code, 3, (some .int), [])
abbrev M_X5_carrier : AM := (⟨"LeafCradlesModel", "carrier", "(II)I"⟩, prog_7_method_57_code, 3, (some .int), [])
abbrev M_X5_log : AM := (⟨"LeafCradlesModel", "log", "(II)I"⟩, prog_7_method_58_code, 3, (some .int), [])
abbrev M_X5_whereNow : AM := (⟨"LeafCradlesModel", "whereNow", "(II)I"⟩, prog_7_method_59_code, 6, (some .int), [])
abbrev M_X5_whereAt : AM := (⟨"LeafCradlesModel", "whereAt", "(II)I"⟩, prog_7_method_60_code, 3, (some .int), [])
abbrev M_X5_overAll : AM := (⟨"LeafCradlesModel", "overAll", "(I)I"⟩, prog_7_method_61_code, 4, (some .int), [])
abbrev M_X5_free : AM := (⟨"LeafCradlesModel", "free", "()I"⟩, prog_7_method_62_code, 3, (some .int), [])
abbrev M_X5_counted : AM := (⟨"LeafCradlesModel", "counted", "(I)I"⟩, prog_7_method_63_code, 2, (some .int), [])
abbrev M_X5_count : AM := (⟨"LeafCradlesModel", "count", "(I)I"⟩, prog_7_method_64_code, 2, (some .int), [])
abbrev M_X5_setting : AM := (⟨"LeafCradlesModel", "setting", "(I)I"⟩, prog_7_method_65_code, 2, (some .int), [])
abbrev M_X5_whyNot : AM := (⟨"LeafCradlesModel", "whyNot", "(III)I"⟩, prog_7_method_66_code, 4, (some .int), [])
abbrev M_X5_doneBy : AM := (⟨"LeafCradlesModel", "doneBy", "(I)I"⟩, prog_7_method_67_code, 4, (some .int), [])
abbrev M_X5_passedNow : AM := (⟨"LeafCradlesModel", "passedNow", "(II)I"⟩, prog_7_method_68_code, 5, (some .int), [])
abbrev M_X5_ifPassed : AM := (⟨"LeafCradlesModel", "ifPassed", "(II)I"⟩, prog_7_method_69_code, 3, (some .int), [])
abbrev M_X5_isAny : AM := (⟨"LeafCradlesModel", "isAny", "()Z"⟩, prog_7_method_70_code, 4, (some .boolean), [])
abbrev M_X5_doneNow : AM := (⟨"LeafCradlesModel", "doneNow", "()I"⟩, prog_7_method_71_code, 2, (some .int), [])
abbrev M_X5_doneIn : AM := (⟨"LeafCradlesModel", "doneIn", "()I"⟩, prog_7_method_72_code, 1, (some .int), [])
abbrev M_X5_quickestNow : AM := (⟨"LeafCradlesModel", "quickestNow", "(I)I"⟩, prog_7_method_73_code, 5, (some .int), [])
abbrev M_X5_quickest : AM := (⟨"LeafCradlesModel", "quickest", "(I)I"⟩, prog_7_method_74_code, 2, (some .int), [])
abbrev M_X5_toScan : AM := (⟨"LeafCradlesModel", "toScan", "(I)I"⟩, prog_7_method_75_code, 2, (some .int), [])
abbrev M_X5_scansOf : AM := (⟨"LeafCradlesModel", "scansOf", "(III)I"⟩, prog_7_method_76_code, 10, (some .int), [])
abbrev M_X5_mayHave : AM := (⟨"LeafCradlesModel", "mayHave", "(II)Z"⟩, prog_7_method_77_code, 5, (some .boolean), [])
abbrev M_X5_layGains : AM := (⟨"LeafCradlesModel", "layGains", "(I)V"⟩, prog_7_method_78_code, 5, none, [])
abbrev M_X5_canPick : AM := (⟨"LeafCradlesModel", "canPick", "(I)Z"⟩, prog_7_method_79_code, 4, (some .boolean), [])
abbrev M_X5_keepPicks : AM := (⟨"LeafCradlesModel", "keepPicks", "()V"⟩, prog_7_method_80_code, 3, none, [])
abbrev M_X5_layBest : AM := (⟨"LeafCradlesModel", "layBest", "(I)V"⟩, prog_7_method_81_code, 3, none, [])
abbrev M_X5_bestNow : AM := (⟨"LeafCradlesModel", "bestNow", "(I)I"⟩, prog_7_method_82_code, 2, (some .int), [])
abbrev M_X5_bestLoad : AM := (⟨"LeafCradlesModel", "bestLoad", "(II)I"⟩, prog_7_method_83_code, 3, (some .int), [])
abbrev M_X5_openNow : AM := (⟨"LeafCradlesModel", "openNow", "()D"⟩, prog_7_method_84_code, 2, (some .double), [])
abbrev M_X5_openShare : AM := (⟨"LeafCradlesModel", "openShare", "()D"⟩, prog_7_method_85_code, 1, (some .double), [])
abbrev M_X5_mix : AM := (⟨"LeafCradlesModel", "mix", "(J)V"⟩, prog_7_method_86_code, 3, none, [])
abbrev M_X5_mixVolume : AM := (⟨"LeafCradlesModel", "mixVolume", "(I)V"⟩, prog_7_method_87_code, 3, none, [])
abbrev M_X5_mixAhead : AM := (⟨"LeafCradlesModel", "mixAhead", "()V"⟩, prog_7_method_88_code, 2, none, [])
abbrev M_X5_digest : AM := (⟨"LeafCradlesModel", "digest", "()J"⟩, prog_7_method_89_code, 3, (some .long), [])
abbrev M_Jxe99ae_isNaN_b9ae7 : AM := (⟨"java/lang/Double", "isNaN", "(D)Z"⟩, prog_8_method_6_code, 2, (some .boolean), [])
abbrev M_Jxe99ae_doubleToLongBits_ccdee : AM := (⟨"java/lang/Double", "doubleToLongBits", "(D)J"⟩, prog_8_method_23_code, 2, (some .long), [])
abbrev M_L_addVolume : AM := (⟨"LeafCradlesLaw", "addVolume", "(LLeafCradles;IIII[J)I"⟩, method_3_code, 7, (some .int), [(0, 14, 17, 13), (0, 14, 21, 15)])
abbrev M_L_addCradle : AM := (⟨"LeafCradlesLaw", "addCradle", "(LLeafCradles;II[J)I"⟩, method_4_code, 5, (some .int), [(0, 10, 13, 13), (0, 10, 17, 15)])
abbrev M_L_addCarrier : AM := (⟨"LeafCradlesLaw", "addCarrier", "(LLeafCradles;[J)I"⟩, method_5_code, 3, (some .int), [(0, 8, 11, 15)])
abbrev M_L_set : AM := (⟨"LeafCradlesLaw", "set", "(LLeafCradles;II[J)I"⟩, method_6_code, 5, (some .int), [(0, 10, 13, 28), (0, 10, 17, 13)])
abbrev M_L_setYear : AM := (⟨"LeafCradlesLaw", "setYear", "(LLeafCradles;I[J)I"⟩, method_7_code, 4, (some .int), [(0, 9, 12, 13)])
abbrev M_L_bring : AM := (⟨"LeafCradlesLaw", "bring", "(LLeafCradles;III[J)I"⟩, method_8_code, 6, (some .int), [(0, 12, 15, 28), (0, 12, 19, 15)])
abbrev M_L_takeBack : AM := (⟨"LeafCradlesLaw", "takeBack", "(LLeafCradles;II[J)I"⟩, method_9_code, 5, (some .int), [(0, 10, 13, 28), (0, 10, 17, 15)])
abbrev M_L_pass : AM := (⟨"LeafCradlesLaw", "pass", "(LLeafCradles;I[J)I"⟩, method_10_code, 4, (some .int), [(0, 9, 12, 13), (0, 9, 15, 15)])
abbrev M_L_reject : AM := (⟨"LeafCradlesLaw", "reject", "(LLeafCradles;II[J)I"⟩, method_11_code, 5, (some .int), [(0, 10, 13, 28), (0, 10, 17, 15)])
abbrev M_L_append : AM := (⟨"LeafCradlesLaw", "append", "(LLeafCradles;I[J)I"⟩, method_12_code, 4, (some .int), [(0, 9, 12, 13), (0, 9, 15, 15)])
abbrev M_L_bar : AM := (⟨"LeafCradlesLaw", "bar", "(LLeafCradles;I[J)I"⟩, method_13_code, 4, (some .int), [(0, 9, 12, 28), (0, 9, 15, 13), (0, 9, 18, 15)])
abbrev M_L_undo : AM := (⟨"LeafCradlesLaw", "undo", "(LLeafCradles;[J)I"⟩, method_14_code, 3, (some .int), [(0, 8, 11, 15)])
abbrev M_L_volume : AM := (⟨"LeafCradlesLaw", "volume", "(LLeafCradles;II[J)I"⟩, method_15_code, 5, (some .int), [(0, 10, 13, 28), (0, 10, 17, 13)])
abbrev M_L_leaf : AM := (⟨"LeafCradlesLaw", "leaf", "(LLeafCradles;III[J)I"⟩, method_16_code, 6, (some .int), [(0, 12, 15, 28), (0, 12, 19, 13)])
abbrev M_L_cradle : AM := (⟨"LeafCradlesLaw", "cradle", "(LLeafCradles;II[J)I"⟩, method_17_code, 5, (some .int), [(0, 10, 13, 28), (0, 10, 17, 13)])
abbrev M_L_carrier : AM := (⟨"LeafCradlesLaw", "carrier", "(LLeafCradles;II[J)I"⟩, method_18_code, 5, (some .int), [(0, 10, 13, 28), (0, 10, 17, 13)])
abbrev M_L_log : AM := (⟨"LeafCradlesLaw", "log", "(LLeafCradles;II[J)I"⟩, method_19_code, 5, (some .int), [(0, 10, 13, 28), (0, 10, 17, 13)])
abbrev M_L_whereAt : AM := (⟨"LeafCradlesLaw", "whereAt", "(LLeafCradles;II[J)I"⟩, method_20_code, 5, (some .int), [(0, 10, 13, 28), (0, 10, 17, 13)])
abbrev M_L_count : AM := (⟨"LeafCradlesLaw", "count", "(LLeafCradles;I[J)I"⟩, method_21_code, 4, (some .int), [(0, 9, 12, 13)])
abbrev M_L_setting : AM := (⟨"LeafCradlesLaw", "setting", "(LLeafCradles;I[J)I"⟩, method_22_code, 4, (some .int), [(0, 9, 12, 28)])
abbrev M_L_whyNot : AM := (⟨"LeafCradlesLaw", "whyNot", "(LLeafCradles;III[J)I"⟩, method_23_code, 6, (some .int), [(0, 12, 15, 28)])
abbrev M_L_ifPassed : AM := (⟨"LeafCradlesLaw", "ifPassed", "(LLeafCradles;II[J)I"⟩, method_24_code, 5, (some .int), [(0, 10, 13, 28), (0, 10, 17, 13)])
abbrev M_L_quickest : AM := (⟨"LeafCradlesLaw", "quickest", "(LLeafCradles;I[J)I"⟩, method_25_code, 4, (some .int), [(0, 9, 12, 28)])
abbrev M_L_bestLoad : AM := (⟨"LeafCradlesLaw", "bestLoad", "(LLeafCradles;II[J)I"⟩, method_26_code, 5, (some .int), [(0, 10, 13, 13)])
abbrev M_L_law : AM := (⟨"LeafCradlesLaw", "law", "([I)Z"⟩, code, 9, (some .boolean), [])
end
section
theorem ru {f : Nat → Int32} {k j : Nat} {x : Int32} (h : j = k) : upd f k x j = x := by rw [h]; exact pk_us
theorem rn {f : Nat → Int32} {k j : Nat} {x : Int32} (h : j ≠ k) : upd f k x j = f j := pk_un h
/-- 1 where v lies from a to b, else 0 -/
def wi (v a b : Int32) : Int32 := if a ≤ v ∧ v ≤ b then 1 else 0
theorem wi01 (v a b : Int32) : wi v a b = 0 ∨ wi v a b = 1 := by unfold wi; split; exact Or.inr rfl; exact Or.inl rfl
def bi (p : Prop) [Decidable p] : Int32 := if p then 1 else 0
theorem bi01 (p : Prop) [Decidable p] : bi p = 0 ∨ bi p = 1 := by unfold bi; split; exact Or.inr rfl; exact Or.inl rfl
/-- a sum of n places -/
def sumF (f : Nat → Int32) : Nat → Int32
  | 0 => nI 0
  | n + 1 => sumF f n + f n
/-- the place of the first of n, from i on -/
def fi (p : Nat → Prop) [DecidablePred p] : Nat → Nat → Option Nat
  | 0, _ => none
  | n + 1, i => if p i then some i else fi p n (i + 1)
theorem fi_some {p : Nat → Prop} [DecidablePred p] : ∀ {n i q : Nat}, fi p n i = some q → i ≤ q ∧ q < i + n ∧ p q
  | 0, i, q, h => by simp [fi] at h
  | n + 1, i, q, h => by
    unfold fi at h
    split at h
    · cases h; exact ⟨Nat.le_refl _, by omega, by assumption⟩
    · have := fi_some h; exact ⟨by omega, by omega, this.2.2⟩
theorem fi_none {p : Nat → Prop} [DecidablePred p] : ∀ {n i : Nat}, fi p n i = none → ∀ q, i ≤ q → q < i + n → ¬ p q
  | 0, i, h, q, h1, h2 => by omega
  | n + 1, i, h, q, h1, h2 => by
    unfold fi at h
    split at h
    · cases h
    · rcases Nat.eq_or_lt_of_le h1 with e | e
      · subst e; assumption
      · exact fi_none h q e (by omega)
/-- NONE or a number -/
def oI : Option Nat → Int32
  | none => -1
  | some n => nI n
theorem oI_ne {o : Option Nat} (h : ¬ oI o = -1) : ∃ q, o = some q := by
  cases o with
  | none => exact absurd rfl h
  | some q => exact ⟨q, rfl⟩
theorem nI_m1 {q : Nat} (h : q < 2147483648) : ¬ nI q = -1 := by
  intro e
  have := congrArg Int32.toInt e
  rw [nI_toInt h] at this
  have h2 : (-1 : Int32).toInt = -1 := by decide
  rw [h2] at this
  omega
theorem oI_eq {o : Option Nat} (h : oI o = -1) (hb : ∀ q, o = some q → q < 2147483648) : o = none := by
  cases o with
  | none => rfl
  | some q => exact absurd h (nI_m1 (hb q rfl))
theorem oI_iff {o : Option Nat} (hb : ∀ q, o = some q → q < 2147483648) : oI o = -1 ↔ o = none := ⟨fun h => oI_eq h hb, fun h => by rw [h]; rfl⟩
/-- the volume on a cradle: the last one of n -/
def vo (z : Nat → Int32) (c : Int32) : Nat → Option Nat
  | 0 => none
  | n + 1 => if z (11 + 7 * n + 5) - nI 1 = c then some n else vo z c n
theorem vo_some {z : Nat → Int32} {c : Int32} : ∀ {n q : Nat}, vo z c n = some q → q < n ∧ z (11 + 7 * q + 5) - nI 1 = c
  | 0, q, h => by simp [vo] at h
  | n + 1, q, h => by
    unfold vo at h
    split at h
    · cases h; exact ⟨by omega, by assumption⟩
    · have := vo_some h; exact ⟨by omega, this.2⟩
theorem vo_cases (z : Nat → Int32) (c : Int32) (n : Nat) : vo z c n = none ∨ ∃ q, vo z c n = some q ∧ q < n := by
  cases h : vo z c n with
  | none => exact Or.inl rfl
  | some q => exact Or.inr ⟨q, rfl, (vo_some h).1⟩
/-- the leaf that comes next: the first faulty one, else the first that isn't scanned -/
def nlB (f : Nat → Int32) (m k : Nat) : Option Nat := match fi (fun j => f j = nI 2) m k with
  | some q => some q
  | none => fi (fun j => f j = nI 0) m k
theorem nlB_some {f : Nat → Int32} {m k q : Nat} (h : nlB f m k = some q) : k ≤ q ∧ q < k + m := by
  unfold nlB at h
  split at h
  · rename_i q' h'
    cases h
    have := fi_some h'
    exact ⟨this.1, this.2.1⟩
  · have := fi_some h
    exact ⟨this.1, this.2.1⟩
theorem nlB_2 {f : Nat → Int32} {m k : Nat} (h : f k = nI 2) : nlB f (m + 1) k = some k := by
  unfold nlB fi
  rw [if_pos h]
theorem nlB_k1 {f : Nat → Int32} {m k : Nat} (h2 : ¬ f k = nI 2) (h0 : ¬ f k = nI 0) : nlB f (m + 1) k = nlB f m (k + 1) := by
  unfold nlB
  rw [show fi (fun j => f j = nI 2) (m + 1) k = fi (fun j => f j = nI 2) m (k + 1) by rw [fi, if_neg h2], show fi (fun j => f j = nI 0) (m + 1) k = fi (fun j => f j = nI 0) m (k + 1) by rw [fi, if_neg h0]]
theorem nlB_0a {f : Nat → Int32} {m k : Nat} (h0 : f k = nI 0) (h : nlB f m (k + 1) = none) : nlB f (m + 1) k = some k := by
  have h2 : ¬ f k = nI 2 := by rw [h0]; decide
  have h3 : fi (fun j => f j = nI 2) m (k + 1) = none := by
    unfold nlB at h
    split at h
    · cases h
    · assumption
  unfold nlB
  rw [show fi (fun j => f j = nI 2) (m + 1) k = none by rw [fi, if_neg h2]; exact h3]
  dsimp only
  rw [fi, if_pos h0]
theorem nlB_0b {f : Nat → Int32} {m k q : Nat} (h0 : f k = nI 0) (h : nlB f m (k + 1) = some q) (hq : f q = nI 0) : nlB f (m + 1) k = some k := by
  have h2 : ¬ f k = nI 2 := by rw [h0]; decide
  have h3 : fi (fun j => f j = nI 2) m (k + 1) = none := by
    unfold nlB at h
    split at h
    · rename_i q' h'
      cases h
      have := (fi_some h').2.2
      rw [hq] at this
      exact absurd this (by decide)
    · assumption
  unfold nlB
  rw [show fi (fun j => f j = nI 2) (m + 1) k = none by rw [fi, if_neg h2]; exact h3]
  dsimp only
  rw [fi, if_pos h0]
theorem nlB_k2 {f : Nat → Int32} {m k q : Nat} (h0 : f k = nI 0) (h : nlB f m (k + 1) = some q) (hq : ¬ f q = nI 0) : nlB f (m + 1) k = some q := by
  have h2 : ¬ f k = nI 2 := by rw [h0]; decide
  have h3 : fi (fun j => f j = nI 2) m (k + 1) = some q := by
    unfold nlB at h
    split at h
    · rename_i q' h'
      cases h
      exact h'
    · exact absurd (fi_some h).2.2 hq
  unfold nlB
  rw [show fi (fun j => f j = nI 2) (m + 1) k = some q by rw [fi, if_neg h2]; exact h3]
abbrev cnd (z : Nat → Int32) (v : Nat) : Nat → Int32 := fun k => z (423 + 3 * (40 * v + k) + 0)
abbrev nlO (z : Nat → Int32) (v n : Nat) : Option Nat := nlB (cnd z v) n 0
def lv (z : Nat → Int32) (v : Nat) : Nat := (z (11 + 7 * v + 2)).toNatClampNeg
theorem nlO_iff {z : Nat → Int32} {v n : Nat} (h : n ≤ 40) : oI (nlO z v n) = -1 ↔ nlO z v n = none := oI_iff fun q hq => by have := nlB_some hq; omega
abbrev LV (z : Nat → Int32) (nv : Nat) : Prop := ∀ v, v < nv → z (11 + 7 * v + 2) = nI (lv z v) ∧ lv z v ≤ 40
theorem CT.ret {E : AE} {M : AM} {d : Nat} {av : List Value} {h : AH} {a b : Int32} {h' : AH} {mc ms : Nat} (hc : CT E M d av h (.inl (some (.int a))) h' mc ms) (e : a = b) : CT E M d av h (.inl (some (.int b))) h' mc ms := by rw [← e]; exact hc
theorem g_X5_thrown_0_2 : ab_oks M_X5_thrown [(0, .aload_n 0, 1, 0, 0, 0, .null), (1, .getfield 40, 3, 5, 15, 945, .null)] = true := by decide +kernel
theorem dc_X5_thrown_4 : decode (AM.bytes M_X5_thrown) 4 = .ok (.ireturn, 1) := by decide +kernel
set_option maxRecDepth 100000 in
set_option maxHeartbeats 4000000 in
theorem s_thrown {E : AE} (d : Nat) {o0 a0 t0 p0 u0 l0 : List AC} {z sa ro te fr to un ga pi be : Nat → Int32} {bm en sta sv ln th : Int32} {hh : Int64} : CT E M_X5_thrown d [.ref 16384] (hp o0 a0 t0 p0 (mo z sa ro te fr to un ga pi be bm en sta sv ln th hh) u0 l0) (.inl (some (.int (th)))) (hp o0 a0 t0 p0 (mo z sa ro te fr to un ga pi be bm en sta sv ln th hh) u0 l0) 0 0 := by
  refine CT.of (L := [some (.ref 16384)]) rfl rfl ?_
  refine AR.run g_X5_thrown_0_2 4 [some (.ref 16384)] [.int (th)] _ [] rfl trivial ?_
  exact AR.retI dc_X5_thrown_4 rfl (by first | rfl | (simp only [nI_add, pk_mul]; first | done | rfl)) rfl
theorem g_X5_fails_0_4 : ab_oks M_X5_fails [(0, .aload_n 0, 1, 0, 0, 0, .null), (1, .iload_n 1, 1, 1, 0, 0, .null), (2, .putfield 40, 3, 5, 15, 945, .null), (5, .iconst 0, 1, 0, 0, 0, .int (nI (0)))] = true := by decide +kernel
theorem dc_X5_fails_6 : decode (AM.bytes M_X5_fails) 6 = .ok (.ireturn, 1) := by decide +kernel
set_option maxRecDepth 100000 in
set_option maxHeartbeats 4000000 in
theorem s_fails {E : AE} (d : Nat) (by_ : Int32) {o0 a0 t0 p0 u0 l0 : List AC} {z sa ro te fr to un ga pi be : Nat → Int32} {bm en sta sv ln th : Int32} {hh : Int64} : CT E M_X5_fails d [.ref 16384, .int (by_)] (hp o0 a0 t0 p0 (mo z sa ro te fr to un ga pi be bm en sta sv ln th hh) u0 l0) (.inl (some (.int (nI (0))))) (hp o0 a0 t0 p0 (mo z sa ro te fr to un ga pi be bm en sta sv ln by_ hh) u0 l0) 0 0 := by
  refine CT.of (L := [some (.ref 16384), some (.int (by_))]) rfl rfl ?_
  refine AR.run g_X5_fails_0_4 6 [some (.ref 16384), some (.int (by_))] [.int (nI (0))] (hp o0 a0 t0 p0 (mo z sa ro te fr to un ga pi be bm en sta sv ln by_ hh) u0 l0) [] rfl trivial ?_
  exact AR.retI dc_X5_fails_6 rfl (by first | rfl | (simp only [nI_add, pk_mul]; first | done | rfl)) rfl
theorem g_X5_within_0_2 : ab_oks M_X5_within [(0, .iload_n 0, 1, 0, 0, 0, .null), (1, .iload_n 1, 1, 1, 0, 0, .null)] = true := by decide +kernel
theorem dc_X5_within_2 : decode (AM.bytes M_X5_within) 2 = .ok (.if_icmp .lt 12, 3) := by decide +kernel
theorem g_X5_within_14_1 : ab_oks M_X5_within [(14, .iconst 0, 1, 0, 0, 0, .int (nI (0)))] = true := by decide +kernel
theorem dc_X5_within_15 : decode (AM.bytes M_X5_within) 15 = .ok (.ireturn, 1) := by decide +kernel
theorem g_X5_within_5_2 : ab_oks M_X5_within [(5, .iload_n 0, 1, 0, 0, 0, .null), (6, .iload_n 2, 1, 2, 0, 0, .null)] = true := by decide +kernel
theorem dc_X5_within_7 : decode (AM.bytes M_X5_within) 7 = .ok (.if_icmp .gt 7, 3) := by decide +kernel
theorem g_X5_within_10_2 : ab_oks M_X5_within [(10, .iconst 1, 1, 0, 0, 0, .int (nI (1))), (11, .goto 4, 3, 15, 0, 0, .null)] = true := by decide +kernel
set_option maxRecDepth 100000 in
set_option maxHeartbeats 4000000 in
theorem s_within {E : AE} (d : Nat) (v a b : Int32) {h : AH} : CT E M_X5_within d [.int (v), .int (a), .int (b)] h (.inl (some (.int (wi v a b)))) h 0 0 := by
  refine CT.of (L := [some (.int (v)), some (.int (a)), some (.int (b))]) rfl rfl ?_
  refine AR.run g_X5_within_0_2 2 [some (.int (v)), some (.int (a)), some (.int (b))] [.int (a), .int (v)] _ [] rfl trivial ?_
  refine AR.lt2 (tgt := 14) dc_X5_within_2 (by decide) (fun c2_1 => ?_) (fun c2_1 => ?_)
  · refine AR.run g_X5_within_14_1 15 [some (.int (v)), some (.int (a)), some (.int (b))] [.int (nI (0))] _ [] rfl trivial ?_
    exact AR.retZ dc_X5_within_15 rfl (Or.inl rfl) (by simp only [wi, bi]; first | (rw [if_pos (by simp only [Int32.lt_iff_toInt_lt, Int32.le_iff_toInt_le, ← Int32.toInt_inj] at *; omega)]; rfl) | (rw [if_neg (by simp only [Int32.lt_iff_toInt_lt, Int32.le_iff_toInt_le, ← Int32.toInt_inj] at *; omega)]; rfl)) rfl
  · refine AR.run g_X5_within_5_2 7 [some (.int (v)), some (.int (a)), some (.int (b))] [.int (b), .int (v)] _ [] rfl trivial ?_
    refine AR.gt2 (tgt := 14) dc_X5_within_7 (by decide) (fun c7_2 => ?_) (fun c7_2 => ?_)
    · refine AR.run g_X5_within_14_1 15 [some (.int (v)), some (.int (a)), some (.int (b))] [.int (nI (0))] _ [] rfl trivial ?_
      exact AR.retZ dc_X5_within_15 rfl (Or.inl rfl) (by simp only [wi, bi]; first | (rw [if_pos (by simp only [Int32.lt_iff_toInt_lt, Int32.le_iff_toInt_le, ← Int32.toInt_inj] at *; omega)]; rfl) | (rw [if_neg (by simp only [Int32.lt_iff_toInt_lt, Int32.le_iff_toInt_le, ← Int32.toInt_inj] at *; omega)]; rfl)) rfl
    · refine AR.run g_X5_within_10_2 15 [some (.int (v)), some (.int (a)), some (.int (b))] [.int (nI (1))] _ [] rfl trivial ?_
      exact AR.retZ dc_X5_within_15 rfl (Or.inr rfl) (by simp only [wi, bi]; first | (rw [if_pos (by simp only [Int32.lt_iff_toInt_lt, Int32.le_iff_toInt_le, ← Int32.toInt_inj] at *; omega)]; rfl) | (rw [if_neg (by simp only [Int32.lt_iff_toInt_lt, Int32.le_iff_toInt_le, ← Int32.toInt_inj] at *; omega)]; rfl)) rfl
theorem g_X5_ofVolume_0_9 : ab_oks M_X5_ofVolume [(0, .aload_n 0, 1, 0, 0, 0, .null), (1, .getfield 7, 3, 5, 0, 930, .null), (4, .bipush 11, 2, 0, 0, 0, .int (nI (11))), (6, .bipush 7, 2, 0, 0, 0, .int (nI (7))), (8, .iload_n 1, 1, 1, 0, 0, .null), (9, .imul, 1, 0, 0, 0, .null), (10, .iadd, 1, 0, 0, 0, .null), (11, .iload_n 2, 1, 2, 0, 0, .null), (12, .iadd, 1, 0, 0, 0, .null)] = true := by decide +kernel
theorem ok_X5_ofVolume_13 : ab_ok M_X5_ofVolume (13, .iaload, 1, 0, 0, 0, .null) = true := by decide +kernel
theorem dc_X5_ofVolume_14 : decode (AM.bytes M_X5_ofVolume) 14 = .ok (.ireturn, 1) := by decide +kernel
set_option maxRecDepth 100000 in
set_option maxHeartbeats 4000000 in
theorem s_ofVolume {E : AE} (d : Nat) (v w : Nat) (h1 : v < 12) (h2 : w < 7) {o0 a0 t0 p0 u0 l0 : List AC} {z sa ro te fr to un ga pi be : Nat → Int32} {bm en sta sv ln th : Int32} {hh : Int64} : CT E M_X5_ofVolume d [.ref 16384, .int (nI (v)), .int (nI (w))] (hp o0 a0 t0 p0 (mo z sa ro te fr to un ga pi be bm en sta sv ln th hh) u0 l0) (.inl (some (.int (z (11 + 7 * v + w))))) (hp o0 a0 t0 p0 (mo z sa ro te fr to un ga pi be bm en sta sv ln th hh) u0 l0) 0 0 := by
  refine CT.of (L := [some (.ref 16384), some (.int (nI (v))), some (.int (nI (w)))]) rfl rfl ?_
  refine AR.run g_X5_ofVolume_0_9 13 [some (.ref 16384), some (.int (nI (v))), some (.int (nI (w)))] [.int (((nI (11)) + ((nI (7)) * (nI (v)))) + (nI (w))), .ref 16385] _ [] rfl trivial ?_
  refine AR.ald (n := 0) (e := ((11 + (7 * v)) + w)) ok_X5_ofVolume_13 (by first | rfl | (simp only [nI_add, pk_mul]; first | done | rfl)) rfl (by omega) (by first | decide | omega) ?_
  exact AR.retI dc_X5_ofVolume_14 rfl (by first | rfl | (simp only [nI_add, pk_mul]; first | done | rfl)) rfl
theorem g_X5_ofCradle_0_9 : ab_oks M_X5_ofCradle [(0, .aload_n 0, 1, 0, 0, 0, .null), (1, .getfield 7, 3, 5, 0, 930, .null), (4, .bipush 95, 2, 0, 0, 0, .int (nI (95))), (6, .iconst 4, 1, 0, 0, 0, .int (nI (4))), (7, .iload_n 1, 1, 1, 0, 0, .null), (8, .imul, 1, 0, 0, 0, .null), (9, .iadd, 1, 0, 0, 0, .null), (10, .iload_n 2, 1, 2, 0, 0, .null), (11, .iadd, 1, 0, 0, 0, .null)] = true := by decide +kernel
theorem ok_X5_ofCradle_12 : ab_ok M_X5_ofCradle (12, .iaload, 1, 0, 0, 0, .null) = true := by decide +kernel
theorem dc_X5_ofCradle_13 : decode (AM.bytes M_X5_ofCradle) 13 = .ok (.ireturn, 1) := by decide +kernel
set_option maxRecDepth 100000 in
set_option maxHeartbeats 4000000 in
theorem s_ofCradle {E : AE} (d : Nat) (v w : Nat) (h1 : v < 4) (h2 : w < 4) {o0 a0 t0 p0 u0 l0 : List AC} {z sa ro te fr to un ga pi be : Nat → Int32} {bm en sta sv ln th : Int32} {hh : Int64} : CT E M_X5_ofCradle d [.ref 16384, .int (nI (v)), .int (nI (w))] (hp o0 a0 t0 p0 (mo z sa ro te fr to un ga pi be bm en sta sv ln th hh) u0 l0) (.inl (some (.int (z (95 + 4 * v + w))))) (hp o0 a0 t0 p0 (mo z sa ro te fr to un ga pi be bm en sta sv ln th hh) u0 l0) 0 0 := by
  refine CT.of (L := [some (.ref 16384), some (.int (nI (v))), some (.int (nI (w)))]) rfl rfl ?_
  refine AR.run g_X5_ofCradle_0_9 12 [some (.ref 16384), some (.int (nI (v))), some (.int (nI (w)))] [.int (((nI (95)) + ((nI (4)) * (nI (v)))) + (nI (w))), .ref 16385] _ [] rfl trivial ?_
  refine AR.ald (n := 0) (e := ((95 + (4 * v)) + w)) ok_X5_ofCradle_12 (by first | rfl | (simp only [nI_add, pk_mul]; first | done | rfl)) rfl (by omega) (by first | decide | omega) ?_
  exact AR.retI dc_X5_ofCradle_13 rfl (by first | rfl | (simp only [nI_add, pk_mul]; first | done | rfl)) rfl
theorem g_X5_ofCarrier_0_9 : ab_oks M_X5_ofCarrier [(0, .aload_n 0, 1, 0, 0, 0, .null), (1, .getfield 7, 3, 5, 0, 930, .null), (4, .bipush 111, 2, 0, 0, 0, .int (nI (111))), (6, .iconst 4, 1, 0, 0, 0, .int (nI (4))), (7, .iload_n 1, 1, 1, 0, 0, .null), (8, .imul, 1, 0, 0, 0, .null), (9, .iadd, 1, 0, 0, 0, .null), (10, .iload_n 2, 1, 2, 0, 0, .null), (11, .iadd, 1, 0, 0, 0, .null)] = true := by decide +kernel
theorem ok_X5_ofCarrier_12 : ab_ok M_X5_ofCarrier (12, .iaload, 1, 0, 0, 0, .null) = true := by decide +kernel
theorem dc_X5_ofCarrier_13 : decode (AM.bytes M_X5_ofCarrier) 13 = .ok (.ireturn, 1) := by decide +kernel
set_option maxRecDepth 100000 in
set_option maxHeartbeats 4000000 in
theorem s_ofCarrier {E : AE} (d : Nat) (v w : Nat) (h1 : v < 3) (h2 : w < 4) {o0 a0 t0 p0 u0 l0 : List AC} {z sa ro te fr to un ga pi be : Nat → Int32} {bm en sta sv ln th : Int32} {hh : Int64} : CT E M_X5_ofCarrier d [.ref 16384, .int (nI (v)), .int (nI (w))] (hp o0 a0 t0 p0 (mo z sa ro te fr to un ga pi be bm en sta sv ln th hh) u0 l0) (.inl (some (.int (z (111 + 4 * v + w))))) (hp o0 a0 t0 p0 (mo z sa ro te fr to un ga pi be bm en sta sv ln th hh) u0 l0) 0 0 := by
  refine CT.of (L := [some (.ref 16384), some (.int (nI (v))), some (.int (nI (w)))]) rfl rfl ?_
  refine AR.run g_X5_ofCarrier_0_9 12 [some (.ref 16384), some (.int (nI (v))), some (.int (nI (w)))] [.int (((nI (111)) + ((nI (4)) * (nI (v)))) + (nI (w))), .ref 16385] _ [] rfl trivial ?_
  refine AR.ald (n := 0) (e := ((111 + (4 * v)) + w)) ok_X5_ofCarrier_12 (by first | rfl | (simp only [nI_add, pk_mul]; first | done | rfl)) rfl (by omega) (by first | decide | omega) ?_
  exact AR.retI dc_X5_ofCarrier_13 rfl (by first | rfl | (simp only [nI_add, pk_mul]; first | done | rfl)) rfl
theorem g_X5_ofLeaf_0_13 : ab_oks M_X5_ofLeaf [(0, .aload_n 0, 1, 0, 0, 0, .null), (1, .getfield 7, 3, 5, 0, 930, .null), (4, .sipush 423, 3, 0, 0, 0, .int (nI (423))), (7, .iconst 3, 1, 0, 0, 0, .int (nI (3))), (8, .bipush 40, 2, 0, 0, 0, .int (nI (40))), (10, .iload_n 1, 1, 1, 0, 0, .null), (11, .imul, 1, 0, 0, 0, .null), (12, .iload_n 2, 1, 2, 0, 0, .null), (13, .iadd, 1, 0, 0, 0, .null), (14, .imul, 1, 0, 0, 0, .null), (15, .iadd, 1, 0, 0, 0, .null), (16, .iload_n 3, 1, 3, 0, 0, .null), (17, .iadd, 1, 0, 0, 0, .null)] = true := by decide +kernel
theorem ok_X5_ofLeaf_18 : ab_ok M_X5_ofLeaf (18, .iaload, 1, 0, 0, 0, .null) = true := by decide +kernel
theorem dc_X5_ofLeaf_19 : decode (AM.bytes M_X5_ofLeaf) 19 = .ok (.ireturn, 1) := by decide +kernel
set_option maxRecDepth 100000 in
set_option maxHeartbeats 4000000 in
theorem s_ofLeaf {E : AE} (d : Nat) (v k w : Nat) (h1 : v < 12) (h2 : k < 40) (h3 : w < 3) {o0 a0 t0 p0 u0 l0 : List AC} {z sa ro te fr to un ga pi be : Nat → Int32} {bm en sta sv ln th : Int32} {hh : Int64} : CT E M_X5_ofLeaf d [.ref 16384, .int (nI (v)), .int (nI (k)), .int (nI (w))] (hp o0 a0 t0 p0 (mo z sa ro te fr to un ga pi be bm en sta sv ln th hh) u0 l0) (.inl (some (.int (z (423 + 3 * (40 * v + k) + w))))) (hp o0 a0 t0 p0 (mo z sa ro te fr to un ga pi be bm en sta sv ln th hh) u0 l0) 0 0 := by
  refine CT.of (L := [some (.ref 16384), some (.int (nI (v))), some (.int (nI (k))), some (.int (nI (w)))]) rfl rfl ?_
  refine AR.run g_X5_ofLeaf_0_13 18 [some (.ref 16384), some (.int (nI (v))), some (.int (nI (k))), some (.int (nI (w)))] [.int (((nI (423)) + ((nI (3)) * (((nI (40)) * (nI (v))) + (nI (k))))) + (nI (w))), .ref 16385] _ [] rfl trivial ?_
  refine AR.ald (n := 0) (e := ((423 + (3 * ((40 * v) + k))) + w)) ok_X5_ofLeaf_18 (by first | rfl | (simp only [nI_add, pk_mul]; first | done | rfl)) rfl (by omega) (by first | decide | omega) ?_
  exact AR.retI dc_X5_ofLeaf_19 rfl (by first | rfl | (simp only [nI_add, pk_mul]; first | done | rfl)) rfl
theorem g_X5_volumeOn_0_4 : ab_oks M_X5_volumeOn [(0, .iconst (-1), 1, 0, 0, 0, .int (-1)), (1, .istore_n 2, 1, 2, 0, 0, .null), (2, .iconst 0, 1, 0, 0, 0, .int (nI (0))), (3, .istore_n 3, 1, 3, 0, 0, .null)] = true := by decide +kernel
theorem g_X5_volumeOn_4_4 : ab_oks M_X5_volumeOn [(4, .iload_n 3, 1, 3, 0, 0, .null), (5, .aload_n 0, 1, 0, 0, 0, .null), (6, .getfield 7, 3, 5, 0, 930, .null), (9, .iconst 0, 1, 0, 0, 0, .int (nI (0)))] = true := by decide +kernel
theorem ok_X5_volumeOn_10 : ab_ok M_X5_volumeOn (10, .iaload, 1, 0, 0, 0, .null) = true := by decide +kernel
theorem dc_X5_volumeOn_11 : decode (AM.bytes M_X5_volumeOn) 11 = .ok (.if_icmp .ge 27, 3) := by decide +kernel
theorem g_X5_volumeOn_14_3 : ab_oks M_X5_volumeOn [(14, .aload_n 0, 1, 0, 0, 0, .null), (15, .iload_n 3, 1, 3, 0, 0, .null), (16, .iconst 5, 1, 0, 0, 0, .int (nI (5)))] = true := by decide +kernel
theorem lk_5_62 : ab_lkV "LeafCradlesModel" 62 M_X5_ofVolume 2 [1037, 1039, 39, 97, 1040] = true := by decide +kernel
theorem dc_X5_volumeOn_17 : decode (AM.bytes M_X5_volumeOn) 17 = .ok (.invokevirtual 62, 3) := by decide +kernel
theorem g_X5_volumeOn_20_3 : ab_oks M_X5_volumeOn [(20, .iconst 1, 1, 0, 0, 0, .int (nI (1))), (21, .isub, 1, 0, 0, 0, .null), (22, .iload_n 1, 1, 1, 0, 0, .null)] = true := by decide +kernel
theorem dc_X5_volumeOn_23 : decode (AM.bytes M_X5_volumeOn) 23 = .ok (.if_icmp .ne 7, 3) := by decide +kernel
theorem g_X5_volumeOn_30_4 : ab_oks M_X5_volumeOn [(30, .iload_n 2, 1, 2, 0, 0, .null), (31, .istore_n 2, 1, 2, 0, 0, .null), (32, .iinc 3 1, 3, 3, 0, 0, .int (nI (1))), (35, .goto (-31), 3, 4, 0, 0, .null)] = true := by decide +kernel
theorem g_X5_volumeOn_26_5 : ab_oks M_X5_volumeOn [(26, .iload_n 3, 1, 3, 0, 0, .null), (27, .goto 4, 3, 31, 0, 0, .null), (31, .istore_n 2, 1, 2, 0, 0, .null), (32, .iinc 3 1, 3, 3, 0, 0, .int (nI (1))), (35, .goto (-31), 3, 4, 0, 0, .null)] = true := by decide +kernel
theorem g_X5_volumeOn_38_1 : ab_oks M_X5_volumeOn [(38, .iload_n 2, 1, 2, 0, 0, .null)] = true := by decide +kernel
theorem dc_X5_volumeOn_39 : decode (AM.bytes M_X5_volumeOn) 39 = .ok (.ireturn, 1) := by decide +kernel
set_option maxRecDepth 100000 in
set_option maxHeartbeats 4000000 in
theorem s_volumeOn {E : AE} (d : Nat) (c : Int32) {nv : Nat} {o0 a0 t0 p0 u0 l0 : List AC} {z sa ro te fr to un ga pi be : Nat → Int32} {bm en sta sv ln th : Int32} {hh : Int64} (hnv : z 0 = nI nv) (h12 : nv ≤ 12) : CT E M_X5_volumeOn (d + 1) [.ref 16384, .int (c)] (hp o0 a0 t0 p0 (mo z sa ro te fr to un ga pi be bm en sta sv ln th hh) u0 l0) (.inl (some (.int (oI (vo z c nv))))) (hp o0 a0 t0 p0 (mo z sa ro te fr to un ga pi be bm en sta sv ln th hh) u0 l0) 0 0 := by
  refine CT.of (L := [some (.ref 16384), some (.int (c)), none, none]) rfl rfl ?_
  refine AR.run g_X5_volumeOn_0_4 4 [some (.ref 16384), some (.int (c)), some (.int (-1)), some (.int (nI (0)))] [] _ [] rfl trivial ?_
  refine AR.cast (L' := [some (.ref 16384), some (.int (c)), some (.int (oI (vo z c 0))), some (.int (nI (0)))]) rfl rfl rfl (AR.loopN nv (fun j1 => [some (.ref 16384), some (.int (c)), some (.int (oI (vo z c j1))), some (.int (nI (j1)))]) (fun j1 => (hp o0 a0 t0 p0 (mo z sa ro te fr to un ga pi be bm en sta sv ln th hh) u0 l0)) (fun j1 => True) (fun j1 hj4 hI4 ih4 => ?_) (fun hI4 => ?_) 0 (by omega) trivial)
  · refine AR.run g_X5_volumeOn_4_4 10 [some (.ref 16384), some (.int (c)), some (.int (oI (vo z c j1))), some (.int (nI (j1)))] [.int (nI (0)), .ref 16385, .int (nI (j1))] _ [] rfl trivial ?_
    refine AR.ald (n := 0) (e := 0) ok_X5_volumeOn_10 (by first | rfl | (simp only [nI_add, pk_mul]; first | done | rfl)) rfl (by omega) (by first | decide | omega) ?_
    refine AR.top hnv ?_
    refine AR.ge2N (tgt := 38) dc_X5_volumeOn_11 (by decide) (by first | rfl | (simp only [nI_add, pk_mul]; first | done | rfl)) (by first | rfl | (simp only [nI_add, pk_mul]; first | done | rfl)) (by omega) (by omega) (fun c11_2 => absurd c11_2 (by omega)) (fun c11_2 => ?_)
    refine AR.run g_X5_volumeOn_14_3 17 [some (.ref 16384), some (.int (c)), some (.int (oI (vo z c j1))), some (.int (nI (j1)))] [.int (nI (5)), .int (nI (j1)), .ref 16384] _ [] rfl trivial ?_
    refine AR.callV1 (16384) [.int (nI (j1)), .int (nI (5))] [] lk_5_62 dc_X5_volumeOn_17 rfl rfl (s_ofVolume _ j1 5 (by omega) (by omega)) (by first | rfl | (simp only [nI_add, pk_mul]; first | done | rfl)) rfl ?_
    refine AR.run g_X5_volumeOn_20_3 23 [some (.ref 16384), some (.int (c)), some (.int (oI (vo z c j1))), some (.int (nI (j1)))] [.int (c), .int ((z (11 + 7 * j1 + 5)) - (nI (1)))] _ [] rfl trivial ?_
    refine AR.ne2 (tgt := 30) dc_X5_volumeOn_23 (by decide) (fun c23_3 => ?_) (fun c23_3 => ?_)
    · refine AR.run g_X5_volumeOn_30_4 4 [some (.ref 16384), some (.int (c)), some (.int (oI (vo z c j1))), some (.int ((nI (j1)) + (nI (1))))] [] _ [] rfl trivial ?_
      exact AR.cast (L' := [some (.ref 16384), some (.int (c)), some (.int (oI (vo z c (j1 + 1)))), some (.int (nI ((j1 + 1))))]) (by first | (simp only [nI_add, vo]; rw [if_pos (by assumption)]; rfl) | (simp only [nI_add, vo]; rw [if_neg (by assumption)])) rfl rfl (ih4 trivial)
    · refine AR.run g_X5_volumeOn_26_5 4 [some (.ref 16384), some (.int (c)), some (.int (nI (j1))), some (.int ((nI (j1)) + (nI (1))))] [] _ [] rfl trivial ?_
      exact AR.cast (L' := [some (.ref 16384), some (.int (c)), some (.int (oI (vo z c (j1 + 1)))), some (.int (nI ((j1 + 1))))]) (by first | (simp only [nI_add, vo]; rw [if_pos (by assumption)]; rfl) | (simp only [nI_add, vo]; rw [if_neg (by assumption)])) rfl rfl (ih4 trivial)
  · refine AR.run g_X5_volumeOn_4_4 10 [some (.ref 16384), some (.int (c)), some (.int (oI (vo z c nv))), some (.int (nI (nv)))] [.int (nI (0)), .ref 16385, .int (nI (nv))] _ [] rfl trivial ?_
    refine AR.ald (n := 0) (e := 0) ok_X5_volumeOn_10 (by first | rfl | (simp only [nI_add, pk_mul]; first | done | rfl)) rfl (by omega) (by first | decide | omega) ?_
    refine AR.top hnv ?_
    refine AR.ge2N (tgt := 38) dc_X5_volumeOn_11 (by decide) (by first | rfl | (simp only [nI_add, pk_mul]; first | done | rfl)) (by first | rfl | (simp only [nI_add, pk_mul]; first | done | rfl)) (by omega) (by omega) (fun c11_4 => ?_) (fun c11_4 => absurd c11_4 (by omega))
    refine AR.run g_X5_volumeOn_38_1 39 [some (.ref 16384), some (.int (c)), some (.int (oI (vo z c nv))), some (.int (nI (nv)))] [.int (oI (vo z c nv))] _ [] rfl trivial ?_
    exact AR.retI dc_X5_volumeOn_39 rfl (by first | rfl | (simp only [nI_add, pk_mul]; first | done | rfl)) rfl
theorem g_X5_leavesWith_0_4 : ab_oks M_X5_leavesWith [(0, .iconst 0, 1, 0, 0, 0, .int (nI (0))), (1, .istore_n 3, 1, 3, 0, 0, .null), (2, .iconst 0, 1, 0, 0, 0, .int (nI (0))), (3, .istore 4, 2, 4, 0, 0, .null)] = true := by decide +kernel
theorem g_X5_leavesWith_5_4 : ab_oks M_X5_leavesWith [(5, .iload 4, 2, 4, 0, 0, .null), (7, .aload_n 0, 1, 0, 0, 0, .null), (8, .iload_n 1, 1, 1, 0, 0, .null), (9, .iconst 2, 1, 0, 0, 0, .int (nI (2)))] = true := by decide +kernel
theorem dc_X5_leavesWith_10 : decode (AM.bytes M_X5_leavesWith) 10 = .ok (.invokevirtual 62, 3) := by decide +kernel
theorem dc_X5_leavesWith_13 : decode (AM.bytes M_X5_leavesWith) 13 = .ok (.if_icmp .ge 29, 3) := by decide +kernel
theorem g_X5_leavesWith_16_5 : ab_oks M_X5_leavesWith [(16, .iload_n 3, 1, 3, 0, 0, .null), (17, .aload_n 0, 1, 0, 0, 0, .null), (18, .iload_n 1, 1, 1, 0, 0, .null), (19, .iload 4, 2, 4, 0, 0, .null), (21, .iconst 0, 1, 0, 0, 0, .int (nI (0)))] = true := by decide +kernel
theorem lk_5_65 : ab_lkV "LeafCradlesModel" 65 M_X5_ofLeaf 3 [1053, 1055, 43, 97, 1056] = true := by decide +kernel
theorem dc_X5_leavesWith_22 : decode (AM.bytes M_X5_leavesWith) 22 = .ok (.invokevirtual 65, 3) := by decide +kernel
theorem g_X5_leavesWith_25_1 : ab_oks M_X5_leavesWith [(25, .iload_n 2, 1, 2, 0, 0, .null)] = true := by decide +kernel
theorem dc_X5_leavesWith_26 : decode (AM.bytes M_X5_leavesWith) 26 = .ok (.if_icmp .ne 7, 3) := by decide +kernel
theorem g_X5_leavesWith_33_5 : ab_oks M_X5_leavesWith [(33, .iconst 0, 1, 0, 0, 0, .int (nI (0))), (34, .iadd, 1, 0, 0, 0, .null), (35, .istore_n 3, 1, 3, 0, 0, .null), (36, .iinc 4 1, 3, 4, 0, 0, .int (nI (1))), (39, .goto (-34), 3, 5, 0, 0, .null)] = true := by decide +kernel
theorem g_X5_leavesWith_29_6 : ab_oks M_X5_leavesWith [(29, .iconst 1, 1, 0, 0, 0, .int (nI (1))), (30, .goto 4, 3, 34, 0, 0, .null), (34, .iadd, 1, 0, 0, 0, .null), (35, .istore_n 3, 1, 3, 0, 0, .null), (36, .iinc 4 1, 3, 4, 0, 0, .int (nI (1))), (39, .goto (-34), 3, 5, 0, 0, .null)] = true := by decide +kernel
theorem g_X5_leavesWith_42_1 : ab_oks M_X5_leavesWith [(42, .iload_n 3, 1, 3, 0, 0, .null)] = true := by decide +kernel
theorem dc_X5_leavesWith_43 : decode (AM.bytes M_X5_leavesWith) 43 = .ok (.ireturn, 1) := by decide +kernel
set_option maxRecDepth 100000 in
set_option maxHeartbeats 4000000 in
theorem s_leavesWith {E : AE} (d : Nat) (v : Nat) (how : Int32) {n : Nat} {o0 a0 t0 p0 u0 l0 : List AC} {z sa ro te fr to un ga pi be : Nat → Int32} {bm en sta sv ln th : Int32} {hh : Int64} (hv : v < 12) (hn : z (11 + 7 * v + 2) = nI n) (h40 : n ≤ 40) : CT E M_X5_leavesWith (d + 1) [.ref 16384, .int (nI (v)), .int (how)] (hp o0 a0 t0 p0 (mo z sa ro te fr to un ga pi be bm en sta sv ln th hh) u0 l0) (.inl (some (.int (sumF (fun k => if z (423 + 3 * (40 * v + k) + 0) = how then nI 1 else nI 0) n)))) (hp o0 a0 t0 p0 (mo z sa ro te fr to un ga pi be bm en sta sv ln th hh) u0 l0) 0 0 := by
  refine CT.of (L := [some (.ref 16384), some (.int (nI (v))), some (.int (how)), none, none]) rfl rfl ?_
  refine AR.run g_X5_leavesWith_0_4 5 [some (.ref 16384), some (.int (nI (v))), some (.int (how)), some (.int (nI (0))), some (.int (nI (0)))] [] _ [] rfl trivial ?_
  refine AR.cast (L' := [some (.ref 16384), some (.int (nI (v))), some (.int (how)), some (.int (sumF (fun k => if z (423 + 3 * (40 * v + k) + 0) = how then nI 1 else nI 0) 0)), some (.int (nI (0)))]) rfl rfl rfl (AR.loopN n (fun j1 => [some (.ref 16384), some (.int (nI (v))), some (.int (how)), some (.int (sumF (fun k => if z (423 + 3 * (40 * v + k) + 0) = how then nI 1 else nI 0) j1)), some (.int (nI (j1)))]) (fun j1 => (hp o0 a0 t0 p0 (mo z sa ro te fr to un ga pi be bm en sta sv ln th hh) u0 l0)) (fun j1 => True) (fun j1 hj5 hI5 ih5 => ?_) (fun hI5 => ?_) 0 (by omega) trivial)
  · refine AR.run g_X5_leavesWith_5_4 10 [some (.ref 16384), some (.int (nI (v))), some (.int (how)), some (.int (sumF (fun k => if z (423 + 3 * (40 * v + k) + 0) = how then nI 1 else nI 0) j1)), some (.int (nI (j1)))] [.int (nI (2)), .int (nI (v)), .ref 16384, .int (nI (j1))] _ [] rfl trivial ?_
    refine AR.callV1 (16384) [.int (nI (v)), .int (nI (2))] [.int (nI (j1))] lk_5_62 dc_X5_leavesWith_10 rfl rfl (s_ofVolume _ v 2 (by omega) (by omega)) (by first | rfl | (simp only [nI_add, pk_mul]; first | done | rfl)) rfl ?_
    refine AR.top hn ?_
    refine AR.ge2N (tgt := 42) dc_X5_leavesWith_13 (by decide) (by first | rfl | (simp only [nI_add, pk_mul]; first | done | rfl)) (by first | rfl | (simp only [nI_add, pk_mul]; first | done | rfl)) (by omega) (by omega) (fun c13_2 => absurd c13_2 (by omega)) (fun c13_2 => ?_)
    refine AR.run g_X5_leavesWith_16_5 22 [some (.ref 16384), some (.int (nI (v))), some (.int (how)), some (.int (sumF (fun k => if z (423 + 3 * (40 * v + k) + 0) = how then nI 1 else nI 0) j1)), some (.int (nI (j1)))] [.int (nI (0)), .int (nI (j1)), .int (nI (v)), .ref 16384, .int (sumF (fun k => if z (423 + 3 * (40 * v + k) + 0) = how then nI 1 else nI 0) j1)] _ [] rfl trivial ?_
    refine AR.callV1 (16384) [.int (nI (v)), .int (nI (j1)), .int (nI (0))] [.int (sumF (fun k => if z (423 + 3 * (40 * v + k) + 0) = how then nI 1 else nI 0) j1)] lk_5_65 dc_X5_leavesWith_22 rfl rfl (s_ofLeaf _ v j1 0 (by omega) (by omega) (by omega)) (by first | rfl | (simp only [nI_add, pk_mul]; first | done | rfl)) rfl ?_
    refine AR.run g_X5_leavesWith_25_1 26 [some (.ref 16384), some (.int (nI (v))), some (.int (how)), some (.int (sumF (fun k => if z (423 + 3 * (40 * v + k) + 0) = how then nI 1 else nI 0) j1)), some (.int (nI (j1)))] [.int (how), .int (z (423 + 3 * (40 * v + j1) + 0)), .int (sumF (fun k => if z (423 + 3 * (40 * v + k) + 0) = how then nI 1 else nI 0) j1)] _ [] rfl trivial ?_
    refine AR.ne2 (tgt := 33) dc_X5_leavesWith_26 (by decide) (fun c26_3 => ?_) (fun c26_3 => ?_)
    · refine AR.run g_X5_leavesWith_33_5 5 [some (.ref 16384), some (.int (nI (v))), some (.int (how)), some (.int ((sumF (fun k => if z (423 + 3 * (40 * v + k) + 0) = how then nI 1 else nI 0) j1) + (nI (0)))), some (.int ((nI (j1)) + (nI (1))))] [] _ [] rfl trivial ?_
      exact AR.cast (L' := [some (.ref 16384), some (.int (nI (v))), some (.int (how)), some (.int (sumF (fun k => if z (423 + 3 * (40 * v + k) + 0) = how then nI 1 else nI 0) (j1 + 1))), some (.int (nI ((j1 + 1))))]) (by first | (simp only [nI_add, sumF]; rw [if_pos (by assumption)]) | (simp only [nI_add, sumF]; rw [if_neg (by assumption)])) rfl rfl (ih5 trivial)
    · refine AR.run g_X5_leavesWith_29_6 5 [some (.ref 16384), some (.int (nI (v))), some (.int (how)), some (.int ((sumF (fun k => if z (423 + 3 * (40 * v + k) + 0) = how then nI 1 else nI 0) j1) + (nI (1)))), some (.int ((nI (j1)) + (nI (1))))] [] _ [] rfl trivial ?_
      exact AR.cast (L' := [some (.ref 16384), some (.int (nI (v))), some (.int (how)), some (.int (sumF (fun k => if z (423 + 3 * (40 * v + k) + 0) = how then nI 1 else nI 0) (j1 + 1))), some (.int (nI ((j1 + 1))))]) (by first | (simp only [nI_add, sumF]; rw [if_pos (by assumption)]) | (simp only [nI_add, sumF]; rw [if_neg (by assumption)])) rfl rfl (ih5 trivial)
  · refine AR.run g_X5_leavesWith_5_4 10 [some (.ref 16384), some (.int (nI (v))), some (.int (how)), some (.int (sumF (fun k => if z (423 + 3 * (40 * v + k) + 0) = how then nI 1 else nI 0) n)), some (.int (nI (n)))] [.int (nI (2)), .int (nI (v)), .ref 16384, .int (nI (n))] _ [] rfl trivial ?_
    refine AR.callV1 (16384) [.int (nI (v)), .int (nI (2))] [.int (nI (n))] lk_5_62 dc_X5_leavesWith_10 rfl rfl (s_ofVolume _ v 2 (by omega) (by omega)) (by first | rfl | (simp only [nI_add, pk_mul]; first | done | rfl)) rfl ?_
    refine AR.top hn ?_
    refine AR.ge2N (tgt := 42) dc_X5_leavesWith_13 (by decide) (by first | rfl | (simp only [nI_add, pk_mul]; first | done | rfl)) (by first | rfl | (simp only [nI_add, pk_mul]; first | done | rfl)) (by omega) (by omega) (fun c13_4 => ?_) (fun c13_4 => absurd c13_4 (by omega))
    refine AR.run g_X5_leavesWith_42_1 43 [some (.ref 16384), some (.int (nI (v))), some (.int (how)), some (.int (sumF (fun k => if z (423 + 3 * (40 * v + k) + 0) = how then nI 1 else nI 0) n)), some (.int (nI (n)))] [.int (sumF (fun k => if z (423 + 3 * (40 * v + k) + 0) = how then nI 1 else nI 0) n)] _ [] rfl trivial ?_
    exact AR.retI dc_X5_leavesWith_43 rfl (by first | rfl | (simp only [nI_add, pk_mul]; first | done | rfl)) rfl
theorem g_X5_nextLeaf_0_5 : ab_oks M_X5_nextLeaf [(0, .iconst (-1), 1, 0, 0, 0, .int (-1)), (1, .istore_n 2, 1, 2, 0, 0, .null), (2, .aload_n 0, 1, 0, 0, 0, .null), (3, .iload_n 1, 1, 1, 0, 0, .null), (4, .iconst 2, 1, 0, 0, 0, .int (nI (2)))] = true := by decide +kernel
theorem dc_X5_nextLeaf_5 : decode (AM.bytes M_X5_nextLeaf) 5 = .ok (.invokevirtual 62, 3) := by decide +kernel
theorem g_X5_nextLeaf_8_3 : ab_oks M_X5_nextLeaf [(8, .iconst 1, 1, 0, 0, 0, .int (nI (1))), (9, .isub, 1, 0, 0, 0, .null), (10, .istore_n 3, 1, 3, 0, 0, .null)] = true := by decide +kernel
theorem g_X5_nextLeaf_11_1 : ab_oks M_X5_nextLeaf [(11, .iload_n 3, 1, 3, 0, 0, .null)] = true := by decide +kernel
theorem dc_X5_nextLeaf_12 : decode (AM.bytes M_X5_nextLeaf) 12 = .ok (.ifCond .lt 62, 3) := by decide +kernel
theorem g_X5_nextLeaf_15_4 : ab_oks M_X5_nextLeaf [(15, .aload_n 0, 1, 0, 0, 0, .null), (16, .iload_n 1, 1, 1, 0, 0, .null), (17, .iload_n 3, 1, 3, 0, 0, .null), (18, .iconst 0, 1, 0, 0, 0, .int (nI (0)))] = true := by decide +kernel
theorem dc_X5_nextLeaf_19 : decode (AM.bytes M_X5_nextLeaf) 19 = .ok (.invokevirtual 65, 3) := by decide +kernel
theorem g_X5_nextLeaf_22_3 : ab_oks M_X5_nextLeaf [(22, .istore 4, 2, 4, 0, 0, .null), (24, .iload 4, 2, 4, 0, 0, .null), (26, .iconst 2, 1, 0, 0, 0, .int (nI (2)))] = true := by decide +kernel
theorem dc_X5_nextLeaf_27 : decode (AM.bytes M_X5_nextLeaf) 27 = .ok (.if_icmp .eq 23, 3) := by decide +kernel
theorem g_X5_nextLeaf_50_4 : ab_oks M_X5_nextLeaf [(50, .iconst 1, 1, 0, 0, 0, .int (nI (1))), (51, .goto 4, 3, 55, 0, 0, .null), (55, .istore 5, 2, 5, 0, 0, .null), (57, .iload 5, 2, 5, 0, 0, .null)] = true := by decide +kernel
theorem dc_X5_nextLeaf_59 : decode (AM.bytes M_X5_nextLeaf) 59 = .ok (.ifCond .eq 7, 3) := by decide +kernel
theorem g_X5_nextLeaf_62_5 : ab_oks M_X5_nextLeaf [(62, .iload_n 3, 1, 3, 0, 0, .null), (63, .goto 4, 3, 67, 0, 0, .null), (67, .istore_n 2, 1, 2, 0, 0, .null), (68, .iinc 3 (-1), 3, 3, 0, 0, .int (-1)), (71, .goto (-60), 3, 11, 0, 0, .null)] = true := by decide +kernel
theorem g_X5_nextLeaf_30_1 : ab_oks M_X5_nextLeaf [(30, .iload 4, 2, 4, 0, 0, .null)] = true := by decide +kernel
theorem dc_X5_nextLeaf_32 : decode (AM.bytes M_X5_nextLeaf) 32 = .ok (.ifCond .ne 22, 3) := by decide +kernel
theorem g_X5_nextLeaf_54_3 : ab_oks M_X5_nextLeaf [(54, .iconst 0, 1, 0, 0, 0, .int (nI (0))), (55, .istore 5, 2, 5, 0, 0, .null), (57, .iload 5, 2, 5, 0, 0, .null)] = true := by decide +kernel
theorem g_X5_nextLeaf_66_4 : ab_oks M_X5_nextLeaf [(66, .iload_n 2, 1, 2, 0, 0, .null), (67, .istore_n 2, 1, 2, 0, 0, .null), (68, .iinc 3 (-1), 3, 3, 0, 0, .int (-1)), (71, .goto (-60), 3, 11, 0, 0, .null)] = true := by decide +kernel
theorem g_X5_nextLeaf_35_2 : ab_oks M_X5_nextLeaf [(35, .iload_n 2, 1, 2, 0, 0, .null), (36, .iconst (-1), 1, 0, 0, 0, .int (-1))] = true := by decide +kernel
theorem dc_X5_nextLeaf_37 : decode (AM.bytes M_X5_nextLeaf) 37 = .ok (.if_icmp .eq 13, 3) := by decide +kernel
theorem g_X5_nextLeaf_40_4 : ab_oks M_X5_nextLeaf [(40, .aload_n 0, 1, 0, 0, 0, .null), (41, .iload_n 1, 1, 1, 0, 0, .null), (42, .iload_n 2, 1, 2, 0, 0, .null), (43, .iconst 0, 1, 0, 0, 0, .int (nI (0)))] = true := by decide +kernel
theorem dc_X5_nextLeaf_44 : decode (AM.bytes M_X5_nextLeaf) 44 = .ok (.invokevirtual 65, 3) := by decide +kernel
theorem dc_X5_nextLeaf_47 : decode (AM.bytes M_X5_nextLeaf) 47 = .ok (.ifCond .ne 7, 3) := by decide +kernel
theorem g_X5_nextLeaf_74_1 : ab_oks M_X5_nextLeaf [(74, .iload_n 2, 1, 2, 0, 0, .null)] = true := by decide +kernel
theorem dc_X5_nextLeaf_75 : decode (AM.bytes M_X5_nextLeaf) 75 = .ok (.ireturn, 1) := by decide +kernel
set_option maxRecDepth 100000 in
set_option maxHeartbeats 4000000 in
theorem s_nextLeaf {E : AE} (d : Nat) (v : Nat) {n : Nat} {o0 a0 t0 p0 u0 l0 : List AC} {z sa ro te fr to un ga pi be : Nat → Int32} {bm en sta sv ln th : Int32} {hh : Int64} (hv : v < 12) (hn : z (11 + 7 * v + 2) = nI n) (h40 : n ≤ 40) : CT E M_X5_nextLeaf (d + 1) [.ref 16384, .int (nI (v))] (hp o0 a0 t0 p0 (mo z sa ro te fr to un ga pi be bm en sta sv ln th hh) u0 l0) (.inl (some (.int (oI (nlO z v n))))) (hp o0 a0 t0 p0 (mo z sa ro te fr to un ga pi be bm en sta sv ln th hh) u0 l0) 0 0 := by
  refine CT.of (L := [some (.ref 16384), some (.int (nI (v))), none, none, none, none]) rfl rfl ?_
  refine AR.run g_X5_nextLeaf_0_5 5 [some (.ref 16384), some (.int (nI (v))), some (.int (-1)), none, none, none] [.int (nI (2)), .int (nI (v)), .ref 16384] _ [] rfl trivial ?_
  refine AR.callV1 (16384) [.int (nI (v)), .int (nI (2))] [] lk_5_62 dc_X5_nextLeaf_5 rfl rfl (s_ofVolume _ v 2 (by omega) (by omega)) (by first | rfl | (simp only [nI_add, pk_mul]; first | done | rfl)) rfl ?_
  refine AR.top hn ?_
  refine AR.run g_X5_nextLeaf_8_3 11 [some (.ref 16384), some (.int (nI (v))), some (.int (-1)), some (.int ((nI (n)) - (nI (1)))), none, none] [] _ [] rfl trivial ?_
  refine AR.cast (L' := [some (.ref 16384), some (.int (nI (v))), some (.int (oI (nlB (cnd z v) (n - n) n))), some (.int (nI n - nI 1)), none, none]) (by rw [Nat.sub_self]; rfl) rfl rfl (AR.loopD (fun j1 => [some (.ref 16384), some (.int (nI (v))), some (.int (oI (nlB (cnd z v) (n - j1) j1))), some (.int (nI j1 - nI 1)), none, none]) (fun j1 => (hp o0 a0 t0 p0 (mo z sa ro te fr to un ga pi be bm en sta sv ln th hh) u0 l0)) (fun j1 => j1 ≤ n) (fun j1 hI11 ih11 => ?_) (fun hI11 => ?_) n (Nat.le_refl _))
  · refine AR.cast (L' := [some (.ref 16384), some (.int (nI (v))), some (.int (oI (nlB (cnd z v) (n - (j1 + 1)) (j1 + 1)))), some (.int (nI (j1))), none, none]) (by rw [nI_p1]) rfl rfl ?_
    refine AR.run g_X5_nextLeaf_11_1 12 [some (.ref 16384), some (.int (nI (v))), some (.int (oI (nlB (cnd z v) (n - (j1 + 1)) (j1 + 1)))), some (.int (nI (j1))), none, none] [.int (nI (j1))] _ [] rfl trivial ?_
    refine AR.ltN (tgt := 74) dc_X5_nextLeaf_12 (by decide) (by first | rfl | (simp only [nI_add, pk_mul]; first | done | rfl)) (by omega) (fun c12_2 => absurd c12_2 (by first | trivial | omega)) (fun c12_2 => ?_)
    refine AR.run g_X5_nextLeaf_15_4 19 [some (.ref 16384), some (.int (nI (v))), some (.int (oI (nlB (cnd z v) (n - (j1 + 1)) (j1 + 1)))), some (.int (nI (j1))), none, none] [.int (nI (0)), .int (nI (j1)), .int (nI (v)), .ref 16384] _ [] rfl trivial ?_
    refine AR.callV1 (16384) [.int (nI (v)), .int (nI (j1)), .int (nI (0))] [] lk_5_65 dc_X5_nextLeaf_19 rfl rfl (s_ofLeaf _ v j1 0 (by omega) (by omega) (by omega)) (by first | rfl | (simp only [nI_add, pk_mul]; first | done | rfl)) rfl ?_
    refine AR.run g_X5_nextLeaf_22_3 27 [some (.ref 16384), some (.int (nI (v))), some (.int (oI (nlB (cnd z v) (n - (j1 + 1)) (j1 + 1)))), some (.int (nI (j1))), some (.int (z (423 + 3 * (40 * v + j1) + 0))), none] [.int (nI (2)), .int (z (423 + 3 * (40 * v + j1) + 0))] _ [] rfl trivial ?_
    refine AR.eq2 (tgt := 50) dc_X5_nextLeaf_27 (by decide) (fun c27_3 => ?_) (fun c27_3 => ?_)
    · refine AR.run g_X5_nextLeaf_50_4 59 [some (.ref 16384), some (.int (nI (v))), some (.int (oI (nlB (cnd z v) (n - (j1 + 1)) (j1 + 1)))), some (.int (nI (j1))), some (.int (z (423 + 3 * (40 * v + j1) + 0))), some (.int (nI (1)))] [.int (nI (1))] _ [] rfl trivial ?_
      refine AR.eqN (tgt := 66) dc_X5_nextLeaf_59 (by decide) (by first | rfl | (simp only [nI_add, pk_mul]; first | done | rfl)) (by omega) (fun c59_4 => absurd c59_4 (by omega)) (fun c59_4 => ?_)
      refine AR.run g_X5_nextLeaf_62_5 11 [some (.ref 16384), some (.int (nI (v))), some (.int (nI (j1))), some (.int ((nI (j1)) + (-1))), some (.int (z (423 + 3 * (40 * v + j1) + 0))), some (.int (nI (1)))] [] _ [] rfl trivial ?_
      refine AR.drop (L' := [some (.ref 16384), some (.int (nI (v))), some (.int (nI (j1))), some (.int ((nI (j1)) + (-1))), none, none]) ⟨rfl, rfl, rfl, rfl, trivial⟩ ?_
      exact AR.cast (L' := [some (.ref 16384), some (.int (nI (v))), some (.int (oI (nlB (cnd z v) (n - j1) j1))), some (.int (nI j1 - nI 1)), none, none]) (by have e9 : n - j1 = n - (j1 + 1) + 1 := (by omega); rw [e9]; simp only [i_m1]; first | rw [nlB_2 (f := cnd z v) (by assumption)]; done | rw [nlB_0b (f := cnd z v) (by assumption) (by assumption) (by assumption)]; done | rw [nlB_0a (f := cnd z v) (by assumption) (oI_eq (by assumption) (fun q hq => by have := nlB_some hq; omega))]; done | rw [nlB_k2 (f := cnd z v) (by assumption) (by assumption) (by assumption)]; done | rw [nlB_k1 (f := cnd z v) (by assumption) (by assumption)]; done | rw [nlB_2 (f := cnd z v) (by assumption)]; rfl | rw [nlB_0b (f := cnd z v) (by assumption) (by assumption) (by assumption)]; rfl | rw [nlB_0a (f := cnd z v) (by assumption) (oI_eq (by assumption) (fun q hq => by have := nlB_some hq; omega))]; rfl | rw [nlB_k2 (f := cnd z v) (by assumption) (by assumption) (by assumption)]; rfl | rw [nlB_k1 (f := cnd z v) (by assumption) (by assumption)]; rfl) rfl rfl (ih11 (by omega))
    · refine AR.run g_X5_nextLeaf_30_1 32 [some (.ref 16384), some (.int (nI (v))), some (.int (oI (nlB (cnd z v) (n - (j1 + 1)) (j1 + 1)))), some (.int (nI (j1))), some (.int (z (423 + 3 * (40 * v + j1) + 0))), none] [.int (z (423 + 3 * (40 * v + j1) + 0))] _ [] rfl trivial ?_
      refine AR.ne (tgt := 54) dc_X5_nextLeaf_32 (by decide) (fun c32_5 => ?_) (fun c32_5 => ?_)
      · refine AR.run g_X5_nextLeaf_54_3 59 [some (.ref 16384), some (.int (nI (v))), some (.int (oI (nlB (cnd z v) (n - (j1 + 1)) (j1 + 1)))), some (.int (nI (j1))), some (.int (z (423 + 3 * (40 * v + j1) + 0))), some (.int (nI (0)))] [.int (nI (0))] _ [] rfl trivial ?_
        refine AR.eqN (tgt := 66) dc_X5_nextLeaf_59 (by decide) (by first | rfl | (simp only [nI_add, pk_mul]; first | done | rfl)) (by omega) (fun c59_6 => ?_) (fun c59_6 => absurd c59_6 (by omega))
        refine AR.run g_X5_nextLeaf_66_4 11 [some (.ref 16384), some (.int (nI (v))), some (.int (oI (nlB (cnd z v) (n - (j1 + 1)) (j1 + 1)))), some (.int ((nI (j1)) + (-1))), some (.int (z (423 + 3 * (40 * v + j1) + 0))), some (.int (nI (0)))] [] _ [] rfl trivial ?_
        refine AR.drop (L' := [some (.ref 16384), some (.int (nI (v))), some (.int (oI (nlB (cnd z v) (n - (j1 + 1)) (j1 + 1)))), some (.int ((nI (j1)) + (-1))), none, none]) ⟨rfl, rfl, rfl, rfl, trivial⟩ ?_
        exact AR.cast (L' := [some (.ref 16384), some (.int (nI (v))), some (.int (oI (nlB (cnd z v) (n - j1) j1))), some (.int (nI j1 - nI 1)), none, none]) (by have e9 : n - j1 = n - (j1 + 1) + 1 := (by omega); rw [e9]; simp only [i_m1]; first | rw [nlB_2 (f := cnd z v) (by assumption)]; done | rw [nlB_0b (f := cnd z v) (by assumption) (by assumption) (by assumption)]; done | rw [nlB_0a (f := cnd z v) (by assumption) (oI_eq (by assumption) (fun q hq => by have := nlB_some hq; omega))]; done | rw [nlB_k2 (f := cnd z v) (by assumption) (by assumption) (by assumption)]; done | rw [nlB_k1 (f := cnd z v) (by assumption) (by assumption)]; done | rw [nlB_2 (f := cnd z v) (by assumption)]; rfl | rw [nlB_0b (f := cnd z v) (by assumption) (by assumption) (by assumption)]; rfl | rw [nlB_0a (f := cnd z v) (by assumption) (oI_eq (by assumption) (fun q hq => by have := nlB_some hq; omega))]; rfl | rw [nlB_k2 (f := cnd z v) (by assumption) (by assumption) (by assumption)]; rfl | rw [nlB_k1 (f := cnd z v) (by assumption) (by assumption)]; rfl) rfl rfl (ih11 (by omega))
      · refine AR.run g_X5_nextLeaf_35_2 37 [some (.ref 16384), some (.int (nI (v))), some (.int (oI (nlB (cnd z v) (n - (j1 + 1)) (j1 + 1)))), some (.int (nI (j1))), some (.int (z (423 + 3 * (40 * v + j1) + 0))), none] [.int (-1), .int (oI (nlB (cnd z v) (n - (j1 + 1)) (j1 + 1)))] _ [] rfl trivial ?_
        refine AR.eq2 (tgt := 50) dc_X5_nextLeaf_37 (by decide) (fun c37_7 => ?_) (fun c37_7 => ?_)
        · refine AR.run g_X5_nextLeaf_50_4 59 [some (.ref 16384), some (.int (nI (v))), some (.int (oI (nlB (cnd z v) (n - (j1 + 1)) (j1 + 1)))), some (.int (nI (j1))), some (.int (z (423 + 3 * (40 * v + j1) + 0))), some (.int (nI (1)))] [.int (nI (1))] _ [] rfl trivial ?_
          refine AR.eqN (tgt := 66) dc_X5_nextLeaf_59 (by decide) (by first | rfl | (simp only [nI_add, pk_mul]; first | done | rfl)) (by omega) (fun c59_8 => absurd c59_8 (by omega)) (fun c59_8 => ?_)
          refine AR.run g_X5_nextLeaf_62_5 11 [some (.ref 16384), some (.int (nI (v))), some (.int (nI (j1))), some (.int ((nI (j1)) + (-1))), some (.int (z (423 + 3 * (40 * v + j1) + 0))), some (.int (nI (1)))] [] _ [] rfl trivial ?_
          refine AR.drop (L' := [some (.ref 16384), some (.int (nI (v))), some (.int (nI (j1))), some (.int ((nI (j1)) + (-1))), none, none]) ⟨rfl, rfl, rfl, rfl, trivial⟩ ?_
          exact AR.cast (L' := [some (.ref 16384), some (.int (nI (v))), some (.int (oI (nlB (cnd z v) (n - j1) j1))), some (.int (nI j1 - nI 1)), none, none]) (by have e9 : n - j1 = n - (j1 + 1) + 1 := (by omega); rw [e9]; simp only [i_m1]; first | rw [nlB_2 (f := cnd z v) (by assumption)]; done | rw [nlB_0b (f := cnd z v) (by assumption) (by assumption) (by assumption)]; done | rw [nlB_0a (f := cnd z v) (by assumption) (oI_eq (by assumption) (fun q hq => by have := nlB_some hq; omega))]; done | rw [nlB_k2 (f := cnd z v) (by assumption) (by assumption) (by assumption)]; done | rw [nlB_k1 (f := cnd z v) (by assumption) (by assumption)]; done | rw [nlB_2 (f := cnd z v) (by assumption)]; rfl | rw [nlB_0b (f := cnd z v) (by assumption) (by assumption) (by assumption)]; rfl | rw [nlB_0a (f := cnd z v) (by assumption) (oI_eq (by assumption) (fun q hq => by have := nlB_some hq; omega))]; rfl | rw [nlB_k2 (f := cnd z v) (by assumption) (by assumption) (by assumption)]; rfl | rw [nlB_k1 (f := cnd z v) (by assumption) (by assumption)]; rfl) rfl rfl (ih11 (by omega))
        · obtain ⟨q9, hq9⟩ := oI_ne (by assumption)
          have hq8 := nlB_some hq9
          · refine AR.cast (L' := [some (.ref 16384), some (.int (nI (v))), some (.int (nI (q9))), some (.int (nI (j1))), some (.int (z (423 + 3 * (40 * v + j1) + 0))), none]) (st' := []) (by rw [hq9]; rfl) rfl rfl ?_
            refine AR.run g_X5_nextLeaf_40_4 44 [some (.ref 16384), some (.int (nI (v))), some (.int (nI (q9))), some (.int (nI (j1))), some (.int (z (423 + 3 * (40 * v + j1) + 0))), none] [.int (nI (0)), .int (nI (q9)), .int (nI (v)), .ref 16384] _ [] rfl trivial ?_
            refine AR.callV1 (16384) [.int (nI (v)), .int (nI (q9)), .int (nI (0))] [] lk_5_65 dc_X5_nextLeaf_44 rfl rfl (s_ofLeaf _ v q9 0 (by omega) (by omega) (by omega)) (by first | rfl | (simp only [nI_add, pk_mul]; first | done | rfl)) rfl ?_
            refine AR.ne (tgt := 54) dc_X5_nextLeaf_47 (by decide) (fun c47_9 => ?_) (fun c47_9 => ?_)
            · refine AR.run g_X5_nextLeaf_54_3 59 [some (.ref 16384), some (.int (nI (v))), some (.int (nI (q9))), some (.int (nI (j1))), some (.int (z (423 + 3 * (40 * v + j1) + 0))), some (.int (nI (0)))] [.int (nI (0))] _ [] rfl trivial ?_
              refine AR.eqN (tgt := 66) dc_X5_nextLeaf_59 (by decide) (by first | rfl | (simp only [nI_add, pk_mul]; first | done | rfl)) (by omega) (fun c59_10 => ?_) (fun c59_10 => absurd c59_10 (by omega))
              refine AR.run g_X5_nextLeaf_66_4 11 [some (.ref 16384), some (.int (nI (v))), some (.int (nI (q9))), some (.int ((nI (j1)) + (-1))), some (.int (z (423 + 3 * (40 * v + j1) + 0))), some (.int (nI (0)))] [] _ [] rfl trivial ?_
              refine AR.drop (L' := [some (.ref 16384), some (.int (nI (v))), some (.int (nI (q9))), some (.int ((nI (j1)) + (-1))), none, none]) ⟨rfl, rfl, rfl, rfl, trivial⟩ ?_
              exact AR.cast (L' := [some (.ref 16384), some (.int (nI (v))), some (.int (oI (nlB (cnd z v) (n - j1) j1))), some (.int (nI j1 - nI 1)), none, none]) (by have e9 : n - j1 = n - (j1 + 1) + 1 := (by omega); rw [e9]; simp only [i_m1]; first | rw [nlB_2 (f := cnd z v) (by assumption)]; done | rw [nlB_0b (f := cnd z v) (by assumption) (by assumption) (by assumption)]; done | rw [nlB_0a (f := cnd z v) (by assumption) (oI_eq (by assumption) (fun q hq => by have := nlB_some hq; omega))]; done | rw [nlB_k2 (f := cnd z v) (by assumption) (by assumption) (by assumption)]; done | rw [nlB_k1 (f := cnd z v) (by assumption) (by assumption)]; done | rw [nlB_2 (f := cnd z v) (by assumption)]; rfl | rw [nlB_0b (f := cnd z v) (by assumption) (by assumption) (by assumption)]; rfl | rw [nlB_0a (f := cnd z v) (by assumption) (oI_eq (by assumption) (fun q hq => by have := nlB_some hq; omega))]; rfl | rw [nlB_k2 (f := cnd z v) (by assumption) (by assumption) (by assumption)]; rfl | rw [nlB_k1 (f := cnd z v) (by assumption) (by assumption)]; rfl) rfl rfl (ih11 (by omega))
            · refine AR.run g_X5_nextLeaf_50_4 59 [some (.ref 16384), some (.int (nI (v))), some (.int (nI (q9))), some (.int (nI (j1))), some (.int (z (423 + 3 * (40 * v + j1) + 0))), some (.int (nI (1)))] [.int (nI (1))] _ [] rfl trivial ?_
              refine AR.eqN (tgt := 66) dc_X5_nextLeaf_59 (by decide) (by first | rfl | (simp only [nI_add, pk_mul]; first | done | rfl)) (by omega) (fun c59_11 => absurd c59_11 (by omega)) (fun c59_11 => ?_)
              refine AR.run g_X5_nextLeaf_62_5 11 [some (.ref 16384), some (.int (nI (v))), some (.int (nI (j1))), some (.int ((nI (j1)) + (-1))), some (.int (z (423 + 3 * (40 * v + j1) + 0))), some (.int (nI (1)))] [] _ [] rfl trivial ?_
              refine AR.drop (L' := [some (.ref 16384), some (.int (nI (v))), some (.int (nI (j1))), some (.int ((nI (j1)) + (-1))), none, none]) ⟨rfl, rfl, rfl, rfl, trivial⟩ ?_
              exact AR.cast (L' := [some (.ref 16384), some (.int (nI (v))), some (.int (oI (nlB (cnd z v) (n - j1) j1))), some (.int (nI j1 - nI 1)), none, none]) (by have e9 : n - j1 = n - (j1 + 1) + 1 := (by omega); rw [e9]; simp only [i_m1]; first | rw [nlB_2 (f := cnd z v) (by assumption)]; done | rw [nlB_0b (f := cnd z v) (by assumption) (by assumption) (by assumption)]; done | rw [nlB_0a (f := cnd z v) (by assumption) (oI_eq (by assumption) (fun q hq => by have := nlB_some hq; omega))]; done | rw [nlB_k2 (f := cnd z v) (by assumption) (by assumption) (by assumption)]; done | rw [nlB_k1 (f := cnd z v) (by assumption) (by assumption)]; done | rw [nlB_2 (f := cnd z v) (by assumption)]; rfl | rw [nlB_0b (f := cnd z v) (by assumption) (by assumption) (by assumption)]; rfl | rw [nlB_0a (f := cnd z v) (by assumption) (oI_eq (by assumption) (fun q hq => by have := nlB_some hq; omega))]; rfl | rw [nlB_k2 (f := cnd z v) (by assumption) (by assumption) (by assumption)]; rfl | rw [nlB_k1 (f := cnd z v) (by assumption) (by assumption)]; rfl) rfl rfl (ih11 (by omega))
  · refine AR.run g_X5_nextLeaf_11_1 12 [some (.ref 16384), some (.int (nI (v))), some (.int (oI (nlB (cnd z v) (n - 0) 0))), some (.int (nI 0 - nI 1)), none, none] [.int (nI 0 - nI 1)] _ [] rfl trivial ?_
    refine AR.lt (tgt := 74) dc_X5_nextLeaf_12 (by decide) (fun c12_12 => ?_) (fun c12_12 => absurd c12_12 (by decide))
    refine AR.run g_X5_nextLeaf_74_1 75 [some (.ref 16384), some (.int (nI (v))), some (.int (oI (nlB (cnd z v) (n - 0) 0))), some (.int (nI 0 - nI 1)), none, none] [.int (oI (nlB (cnd z v) (n - 0) 0))] _ [] rfl trivial ?_
    exact AR.retI dc_X5_nextLeaf_75 rfl (by rw [Nat.sub_zero]) rfl
end
section
theorem wiV_t {v n : Nat} (h : v < n) (hn : n < 2147483648) : wi (nI v) (nI 0) (nI n - nI 1) = nI 1 := by
  obtain ⟨m, rfl⟩ : ∃ m, n = m + 1 := ⟨n - 1, by omega⟩
  unfold wi
  rw [nI_p1, if_pos ⟨nI_le (Nat.zero_le _) (by omega), nI_le (by omega) (by omega)⟩]
  rfl
theorem wiV_f {x : Int32} {n : Nat} (hn : n < 2147483648) (h : ¬ ∃ v : Nat, v < n ∧ x = nI v) : wi x (nI 0) (nI n - nI 1) = nI 0 := by
  unfold wi
  rw [if_neg]
  · rfl
  · rintro ⟨h1, h2⟩
    have hx : ¬ x < 0 := fun q => by
      have h1' : (0 : Int32) ≤ x := h1
      rw [Int32.le_iff_toInt_le] at h1'
      rw [Int32.lt_iff_toInt_lt] at q
      omega
    obtain ⟨j, hj, rfl⟩ := nI_of hx
    refine h ⟨j, ?_, rfl⟩
    cases n with
    | zero =>
      exfalso
      have h3 : nI j ≤ -1 := h2
      rw [Int32.le_iff_toInt_le, nI_toInt hj] at h3
      have h4 : (-1 : Int32).toInt = -1 := by decide
      omega
    | succ m =>
      rw [nI_p1, nI_leI hj (by omega)] at h2
      omega
theorem g_X5_isVolume_0_5 : ab_oks M_X5_isVolume [(0, .iload_n 1, 1, 1, 0, 0, .null), (1, .iconst 0, 1, 0, 0, 0, .int (nI (0))), (2, .aload_n 0, 1, 0, 0, 0, .null), (3, .getfield 7, 3, 5, 0, 930, .null), (6, .iconst 0, 1, 0, 0, 0, .int (nI (0)))] = true := by decide +kernel
theorem ok_X5_isVolume_7 : ab_ok M_X5_isVolume (7, .iaload, 1, 0, 0, 0, .null) = true := by decide +kernel
theorem g_X5_isVolume_8_2 : ab_oks M_X5_isVolume [(8, .iconst 1, 1, 0, 0, 0, .int (nI (1))), (9, .isub, 1, 0, 0, 0, .null)] = true := by decide +kernel
theorem lk_5_44 : ab_lkS "LeafCradlesModel" 44 M_X5_within 3 [990, 991, 97, 992] = true := by decide +kernel
theorem dc_X5_isVolume_10 : decode (AM.bytes M_X5_isVolume) 10 = .ok (.invokestatic 44, 3) := by decide +kernel
theorem dc_X5_isVolume_13 : decode (AM.bytes M_X5_isVolume) 13 = .ok (.ireturn, 1) := by decide +kernel
set_option maxRecDepth 100000 in
set_option maxHeartbeats 4000000 in
theorem s_isVolume {E : AE} (d : Nat) (v : Int32) {nv : Nat} {o0 a0 t0 p0 u0 l0 : List AC} {z sa ro te fr to un ga pi be : Nat → Int32} {bm en sta sv ln th : Int32} {hh : Int64} (hnv : z 0 = nI nv) : CT E M_X5_isVolume (d + 1) [.ref 16384, .int (v)] (hp o0 a0 t0 p0 (mo z sa ro te fr to un ga pi be bm en sta sv ln th hh) u0 l0) (.inl (some (.int (wi v (nI 0) ((nI nv) - (nI 1)))))) (hp o0 a0 t0 p0 (mo z sa ro te fr to un ga pi be bm en sta sv ln th hh) u0 l0) 0 0 := by
  refine CT.of (L := [some (.ref 16384), some (.int (v))]) rfl rfl ?_
  refine AR.run g_X5_isVolume_0_5 7 [some (.ref 16384), some (.int (v))] [.int (nI (0)), .ref 16385, .int (nI (0)), .int (v)] _ [] rfl trivial ?_
  refine AR.ald (n := 0) (e := 0) ok_X5_isVolume_7 (by first | rfl | (simp only [nI_add, pk_mul]; first | done | rfl)) rfl (by omega) (by first | decide | omega) ?_
  refine AR.top hnv ?_
  refine AR.run g_X5_isVolume_8_2 10 [some (.ref 16384), some (.int (v))] [.int ((nI (nv)) - (nI (1))), .int (nI (0)), .int (v)] _ [] rfl trivial ?_
  refine AR.callS1 [.int (v), .int (nI (0)), .int ((nI (nv)) - (nI (1)))] [] lk_5_44 dc_X5_isVolume_10 (s_within _ v (nI (0)) ((nI (nv)) - (nI (1))) ) (by first | rfl | (simp only [nI_add, pk_mul]; first | done | rfl)) rfl ?_
  exact AR.retZ dc_X5_isVolume_13 rfl (wi01 _ _ _) (by first | rfl | (simp only [nI_add, pk_mul]; first | done | rfl)) rfl
theorem g_X5_isCradle_0_5 : ab_oks M_X5_isCradle [(0, .iload_n 1, 1, 1, 0, 0, .null), (1, .iconst 0, 1, 0, 0, 0, .int (nI (0))), (2, .aload_n 0, 1, 0, 0, 0, .null), (3, .getfield 7, 3, 5, 0, 930, .null), (6, .iconst 1, 1, 0, 0, 0, .int (nI (1)))] = true := by decide +kernel
theorem ok_X5_isCradle_7 : ab_ok M_X5_isCradle (7, .iaload, 1, 0, 0, 0, .null) = true := by decide +kernel
theorem g_X5_isCradle_8_2 : ab_oks M_X5_isCradle [(8, .iconst 1, 1, 0, 0, 0, .int (nI (1))), (9, .isub, 1, 0, 0, 0, .null)] = true := by decide +kernel
theorem dc_X5_isCradle_10 : decode (AM.bytes M_X5_isCradle) 10 = .ok (.invokestatic 44, 3) := by decide +kernel
theorem dc_X5_isCradle_13 : decode (AM.bytes M_X5_isCradle) 13 = .ok (.ireturn, 1) := by decide +kernel
set_option maxRecDepth 100000 in
set_option maxHeartbeats 4000000 in
theorem s_isCradle {E : AE} (d : Nat) (v : Int32) {nc : Nat} {o0 a0 t0 p0 u0 l0 : List AC} {z sa ro te fr to un ga pi be : Nat → Int32} {bm en sta sv ln th : Int32} {hh : Int64} (hnc : z 1 = nI nc) : CT E M_X5_isCradle (d + 1) [.ref 16384, .int (v)] (hp o0 a0 t0 p0 (mo z sa ro te fr to un ga pi be bm en sta sv ln th hh) u0 l0) (.inl (some (.int (wi v (nI 0) ((nI nc) - (nI 1)))))) (hp o0 a0 t0 p0 (mo z sa ro te fr to un ga pi be bm en sta sv ln th hh) u0 l0) 0 0 := by
  refine CT.of (L := [some (.ref 16384), some (.int (v))]) rfl rfl ?_
  refine AR.run g_X5_isCradle_0_5 7 [some (.ref 16384), some (.int (v))] [.int (nI (1)), .ref 16385, .int (nI (0)), .int (v)] _ [] rfl trivial ?_
  refine AR.ald (n := 0) (e := 1) ok_X5_isCradle_7 (by first | rfl | (simp only [nI_add, pk_mul]; first | done | rfl)) rfl (by omega) (by first | decide | omega) ?_
  refine AR.top hnc ?_
  refine AR.run g_X5_isCradle_8_2 10 [some (.ref 16384), some (.int (v))] [.int ((nI (nc)) - (nI (1))), .int (nI (0)), .int (v)] _ [] rfl trivial ?_
  refine AR.callS1 [.int (v), .int (nI (0)), .int ((nI (nc)) - (nI (1)))] [] lk_5_44 dc_X5_isCradle_10 (s_within _ v (nI (0)) ((nI (nc)) - (nI (1))) ) (by first | rfl | (simp only [nI_add, pk_mul]; first | done | rfl)) rfl ?_
  exact AR.retZ dc_X5_isCradle_13 rfl (wi01 _ _ _) (by first | rfl | (simp only [nI_add, pk_mul]; first | done | rfl)) rfl
theorem g_X5_isCarrier_0_5 : ab_oks M_X5_isCarrier [(0, .iload_n 1, 1, 1, 0, 0, .null), (1, .iconst 0, 1, 0, 0, 0, .int (nI (0))), (2, .aload_n 0, 1, 0, 0, 0, .null), (3, .getfield 7, 3, 5, 0, 930, .null), (6, .iconst 2, 1, 0, 0, 0, .int (nI (2)))] = true := by decide +kernel
theorem ok_X5_isCarrier_7 : ab_ok M_X5_isCarrier (7, .iaload, 1, 0, 0, 0, .null) = true := by decide +kernel
theorem g_X5_isCarrier_8_2 : ab_oks M_X5_isCarrier [(8, .iconst 1, 1, 0, 0, 0, .int (nI (1))), (9, .isub, 1, 0, 0, 0, .null)] = true := by decide +kernel
theorem dc_X5_isCarrier_10 : decode (AM.bytes M_X5_isCarrier) 10 = .ok (.invokestatic 44, 3) := by decide +kernel
theorem dc_X5_isCarrier_13 : decode (AM.bytes M_X5_isCarrier) 13 = .ok (.ireturn, 1) := by decide +kernel
set_option maxRecDepth 100000 in
set_option maxHeartbeats 4000000 in
theorem s_isCarrier {E : AE} (d : Nat) (v : Int32) {nr : Nat} {o0 a0 t0 p0 u0 l0 : List AC} {z sa ro te fr to un ga pi be : Nat → Int32} {bm en sta sv ln th : Int32} {hh : Int64} (hnr : z 2 = nI nr) : CT E M_X5_isCarrier (d + 1) [.ref 16384, .int (v)] (hp o0 a0 t0 p0 (mo z sa ro te fr to un ga pi be bm en sta sv ln th hh) u0 l0) (.inl (some (.int (wi v (nI 0) ((nI nr) - (nI 1)))))) (hp o0 a0 t0 p0 (mo z sa ro te fr to un ga pi be bm en sta sv ln th hh) u0 l0) 0 0 := by
  refine CT.of (L := [some (.ref 16384), some (.int (v))]) rfl rfl ?_
  refine AR.run g_X5_isCarrier_0_5 7 [some (.ref 16384), some (.int (v))] [.int (nI (2)), .ref 16385, .int (nI (0)), .int (v)] _ [] rfl trivial ?_
  refine AR.ald (n := 0) (e := 2) ok_X5_isCarrier_7 (by first | rfl | (simp only [nI_add, pk_mul]; first | done | rfl)) rfl (by omega) (by first | decide | omega) ?_
  refine AR.top hnr ?_
  refine AR.run g_X5_isCarrier_8_2 10 [some (.ref 16384), some (.int (v))] [.int ((nI (nr)) - (nI (1))), .int (nI (0)), .int (v)] _ [] rfl trivial ?_
  refine AR.callS1 [.int (v), .int (nI (0)), .int ((nI (nr)) - (nI (1)))] [] lk_5_44 dc_X5_isCarrier_10 (s_within _ v (nI (0)) ((nI (nr)) - (nI (1))) ) (by first | rfl | (simp only [nI_add, pk_mul]; first | done | rfl)) rfl ?_
  exact AR.retZ dc_X5_isCarrier_13 rfl (wi01 _ _ _) (by first | rfl | (simp only [nI_add, pk_mul]; first | done | rfl)) rfl
/-- the minutes of a way -/
def wayZ (z : Nat → Int32) (v c : Nat) : Int32 := z 10 * (if z (111 + 4 * c + 0) - z (11 + 7 * v + 0) < 0 then -(z (111 + 4 * c + 0) - z (11 + 7 * v + 0)) else z (111 + 4 * c + 0) - z (11 + 7 * v + 0)) + nI 1
theorem g_X5_way_0_3 : ab_oks M_X5_way [(0, .aload_n 0, 1, 0, 0, 0, .null), (1, .iload_n 2, 1, 2, 0, 0, .null), (2, .iconst 0, 1, 0, 0, 0, .int (nI (0)))] = true := by decide +kernel
theorem lk_5_58 : ab_lkV "LeafCradlesModel" 58 M_X5_ofCarrier 2 [1057, 1059, 44, 97, 1060] = true := by decide +kernel
theorem dc_X5_way_3 : decode (AM.bytes M_X5_way) 3 = .ok (.invokevirtual 58, 3) := by decide +kernel
theorem g_X5_way_6_3 : ab_oks M_X5_way [(6, .aload_n 0, 1, 0, 0, 0, .null), (7, .iload_n 1, 1, 1, 0, 0, .null), (8, .iconst 0, 1, 0, 0, 0, .int (nI (0)))] = true := by decide +kernel
theorem dc_X5_way_9 : decode (AM.bytes M_X5_way) 9 = .ok (.invokevirtual 62, 3) := by decide +kernel
theorem g_X5_way_12_5 : ab_oks M_X5_way [(12, .isub, 1, 0, 0, 0, .null), (13, .istore_n 3, 1, 3, 0, 0, .null), (14, .aload_n 0, 1, 0, 0, 0, .null), (15, .getfield 7, 3, 5, 0, 930, .null), (18, .bipush 10, 2, 0, 0, 0, .int (nI (10)))] = true := by decide +kernel
theorem ok_X5_way_20 : ab_ok M_X5_way (20, .iaload, 1, 0, 0, 0, .null) = true := by decide +kernel
theorem g_X5_way_21_1 : ab_oks M_X5_way [(21, .iload_n 3, 1, 3, 0, 0, .null)] = true := by decide +kernel
theorem dc_X5_way_22 : decode (AM.bytes M_X5_way) 22 = .ok (.ifCond .ge 8, 3) := by decide +kernel
theorem g_X5_way_30_4 : ab_oks M_X5_way [(30, .iload_n 3, 1, 3, 0, 0, .null), (31, .imul, 1, 0, 0, 0, .null), (32, .iconst 1, 1, 0, 0, 0, .int (nI (1))), (33, .iadd, 1, 0, 0, 0, .null)] = true := by decide +kernel
theorem dc_X5_way_34 : decode (AM.bytes M_X5_way) 34 = .ok (.ireturn, 1) := by decide +kernel
theorem g_X5_way_25_6 : ab_oks M_X5_way [(25, .iload_n 3, 1, 3, 0, 0, .null), (26, .ineg, 1, 0, 0, 0, .null), (27, .goto 4, 3, 31, 0, 0, .null), (31, .imul, 1, 0, 0, 0, .null), (32, .iconst 1, 1, 0, 0, 0, .int (nI (1))), (33, .iadd, 1, 0, 0, 0, .null)] = true := by decide +kernel
set_option maxRecDepth 100000 in
set_option maxHeartbeats 4000000 in
theorem s_way {E : AE} (d : Nat) (v c : Nat) (hv : v < 12) (hc : c < 3) {o0 a0 t0 p0 u0 l0 : List AC} {z sa ro te fr to un ga pi be : Nat → Int32} {bm en sta sv ln th : Int32} {hh : Int64} : CT E M_X5_way (d + 1) [.ref 16384, .int (nI (v)), .int (nI (c))] (hp o0 a0 t0 p0 (mo z sa ro te fr to un ga pi be bm en sta sv ln th hh) u0 l0) (.inl (some (.int (wayZ z v c)))) (hp o0 a0 t0 p0 (mo z sa ro te fr to un ga pi be bm en sta sv ln th hh) u0 l0) 0 0 := by
  refine CT.of (L := [some (.ref 16384), some (.int (nI (v))), some (.int (nI (c))), none]) rfl rfl ?_
  refine AR.run g_X5_way_0_3 3 [some (.ref 16384), some (.int (nI (v))), some (.int (nI (c))), none] [.int (nI (0)), .int (nI (c)), .ref 16384] _ [] rfl trivial ?_
  refine AR.callV1 (16384) [.int (nI (c)), .int (nI (0))] [] lk_5_58 dc_X5_way_3 rfl rfl (s_ofCarrier _ c 0 (by omega) (by omega)) (by first | rfl | (simp only [nI_add, pk_mul]; first | done | rfl)) rfl ?_
  refine AR.run g_X5_way_6_3 9 [some (.ref 16384), some (.int (nI (v))), some (.int (nI (c))), none] [.int (nI (0)), .int (nI (v)), .ref 16384, .int (z (111 + 4 * c + 0))] _ [] rfl trivial ?_
  refine AR.callV1 (16384) [.int (nI (v)), .int (nI (0))] [.int (z (111 + 4 * c + 0))] lk_5_62 dc_X5_way_9 rfl rfl (s_ofVolume _ v 0 (by omega) (by omega)) (by first | rfl | (simp only [nI_add, pk_mul]; first | done | rfl)) rfl ?_
  refine AR.run g_X5_way_12_5 20 [some (.ref 16384), some (.int (nI (v))), some (.int (nI (c))), some (.int ((z (111 + 4 * c + 0)) - (z (11 + 7 * v + 0))))] [.int (nI (10)), .ref 16385] _ [] rfl trivial ?_
  refine AR.ald (n := 0) (e := 10) ok_X5_way_20 (by first | rfl | (simp only [nI_add, pk_mul]; first | done | rfl)) rfl (by omega) (by first | decide | omega) ?_
  refine AR.run g_X5_way_21_1 22 [some (.ref 16384), some (.int (nI (v))), some (.int (nI (c))), some (.int ((z (111 + 4 * c + 0)) - (z (11 + 7 * v + 0))))] [.int ((z (111 + 4 * c + 0)) - (z (11 + 7 * v + 0))), .int (z 10)] _ [] rfl trivial ?_
  refine AR.ge (tgt := 30) dc_X5_way_22 (by decide) (fun c22_1 => ?_) (fun c22_1 => ?_)
  · refine AR.run g_X5_way_30_4 34 [some (.ref 16384), some (.int (nI (v))), some (.int (nI (c))), some (.int ((z (111 + 4 * c + 0)) - (z (11 + 7 * v + 0))))] [.int (((z 10) * ((z (111 + 4 * c + 0)) - (z (11 + 7 * v + 0)))) + (nI (1)))] _ [] rfl trivial ?_
    exact AR.retI dc_X5_way_34 rfl (by unfold wayZ; first | (rw [if_pos (by first | assumption | (exact Int32.not_le.mp (by assumption)))]) | (rw [if_neg (by first | assumption | (exact Int32.not_lt.mpr (by assumption)))])) rfl
  · refine AR.run g_X5_way_25_6 34 [some (.ref 16384), some (.int (nI (v))), some (.int (nI (c))), some (.int ((z (111 + 4 * c + 0)) - (z (11 + 7 * v + 0))))] [.int (((z 10) * (-((z (111 + 4 * c + 0)) - (z (11 + 7 * v + 0))))) + (nI (1)))] _ [] rfl trivial ?_
    exact AR.retI dc_X5_way_34 rfl (by unfold wayZ; first | (rw [if_pos (by first | assumption | (exact Int32.not_le.mp (by assumption)))]) | (rw [if_neg (by first | assumption | (exact Int32.not_lt.mpr (by assumption)))])) rfl
theorem g_X5_isLogFull_0_3 : ab_oks M_X5_isLogFull [(0, .aload_n 0, 1, 0, 0, 0, .null), (1, .getfield 7, 3, 5, 0, 930, .null), (4, .iconst 5, 1, 0, 0, 0, .int (nI (5)))] = true := by decide +kernel
theorem ok_X5_isLogFull_5 : ab_ok M_X5_isLogFull (5, .iaload, 1, 0, 0, 0, .null) = true := by decide +kernel
theorem g_X5_isLogFull_6_1 : ab_oks M_X5_isLogFull [(6, .bipush 60, 2, 0, 0, 0, .int (nI (60)))] = true := by decide +kernel
theorem dc_X5_isLogFull_8 : decode (AM.bytes M_X5_isLogFull) 8 = .ok (.if_icmp .ne 7, 3) := by decide +kernel
theorem g_X5_isLogFull_15_1 : ab_oks M_X5_isLogFull [(15, .iconst 0, 1, 0, 0, 0, .int (nI (0)))] = true := by decide +kernel
theorem dc_X5_isLogFull_16 : decode (AM.bytes M_X5_isLogFull) 16 = .ok (.ireturn, 1) := by decide +kernel
theorem g_X5_isLogFull_11_2 : ab_oks M_X5_isLogFull [(11, .iconst 1, 1, 0, 0, 0, .int (nI (1))), (12, .goto 4, 3, 16, 0, 0, .null)] = true := by decide +kernel
set_option maxRecDepth 100000 in
set_option maxHeartbeats 4000000 in
theorem s_isLogFull {E : AE} (d : Nat) {ne : Nat} {o0 a0 t0 p0 u0 l0 : List AC} {z sa ro te fr to un ga pi be : Nat → Int32} {bm en sta sv ln th : Int32} {hh : Int64} (hne : z 5 = nI ne) (h60 : ne ≤ 60) : CT E M_X5_isLogFull d [.ref 16384] (hp o0 a0 t0 p0 (mo z sa ro te fr to un ga pi be bm en sta sv ln th hh) u0 l0) (.inl (some (.int (bi (ne = 60))))) (hp o0 a0 t0 p0 (mo z sa ro te fr to un ga pi be bm en sta sv ln th hh) u0 l0) 0 0 := by
  refine CT.of (L := [some (.ref 16384)]) rfl rfl ?_
  refine AR.run g_X5_isLogFull_0_3 5 [some (.ref 16384)] [.int (nI (5)), .ref 16385] _ [] rfl trivial ?_
  refine AR.ald (n := 0) (e := 5) ok_X5_isLogFull_5 (by first | rfl | (simp only [nI_add, pk_mul]; first | done | rfl)) rfl (by omega) (by first | decide | omega) ?_
  refine AR.top hne ?_
  refine AR.run g_X5_isLogFull_6_1 8 [some (.ref 16384)] [.int (nI (60)), .int (nI (ne))] _ [] rfl trivial ?_
  refine AR.ne2N (tgt := 15) dc_X5_isLogFull_8 (by decide) (by first | rfl | (simp only [nI_add, pk_mul]; first | done | rfl)) (by first | rfl | (simp only [nI_add, pk_mul]; first | done | rfl)) (by omega) (by omega) (fun c8_1 => ?_) (fun c8_1 => ?_)
  · refine AR.run g_X5_isLogFull_15_1 16 [some (.ref 16384)] [.int (nI (0))] _ [] rfl trivial ?_
    exact AR.retZ dc_X5_isLogFull_16 rfl (Or.inl rfl) (by unfold bi; first | (rw [if_pos (by assumption)]; rfl) | (rw [if_neg (by assumption)]; rfl)) rfl
  · refine AR.run g_X5_isLogFull_11_2 16 [some (.ref 16384)] [.int (nI (1))] _ [] rfl trivial ?_
    exact AR.retZ dc_X5_isLogFull_16 rfl (Or.inr rfl) (by unfold bi; first | (rw [if_pos (by assumption)]; rfl) | (rw [if_neg (by assumption)]; rfl)) rfl
def idZ (z : Nat → Int32) (nv c : Nat) : Int32 := match vo z (nI c) nv with
  | none => nI 1
  | some v => if 0 < z (11 + 7 * v + 6) then nI 2 else if z (95 + 4 * c + 1) < z (11 + 7 * v + 3) then nI 3 else if nlO z v (lv z v) = none then nI 4 else nI 0
theorem g_X5_idle_0_2 : ab_oks M_X5_idle [(0, .aload_n 0, 1, 0, 0, 0, .null), (1, .iload_n 1, 1, 1, 0, 0, .null)] = true := by decide +kernel
theorem lk_5_69 : ab_lkV "LeafCradlesModel" 69 M_X5_volumeOn 1 [1041, 1043, 40, 97, 1044] = true := by decide +kernel
theorem dc_X5_idle_2 : decode (AM.bytes M_X5_idle) 2 = .ok (.invokevirtual 69, 3) := by decide +kernel
theorem g_X5_idle_5_1 : ab_oks M_X5_idle [(5, .istore_n 2, 1, 2, 0, 0, .null)] = true := by decide +kernel
theorem g_X5_idle_6_2 : ab_oks M_X5_idle [(6, .iload_n 2, 1, 2, 0, 0, .null), (7, .iconst (-1), 1, 0, 0, 0, .int (-1))] = true := by decide +kernel
theorem dc_X5_idle_8 : decode (AM.bytes M_X5_idle) 8 = .ok (.if_icmp .ne 5, 3) := by decide +kernel
theorem g_X5_idle_11_1 : ab_oks M_X5_idle [(11, .iconst 1, 1, 0, 0, 0, .int (nI (1)))] = true := by decide +kernel
theorem dc_X5_idle_12 : decode (AM.bytes M_X5_idle) 12 = .ok (.ireturn, 1) := by decide +kernel
theorem g_X5_idle_13_3 : ab_oks M_X5_idle [(13, .aload_n 0, 1, 0, 0, 0, .null), (14, .iload_n 2, 1, 2, 0, 0, .null), (15, .bipush 6, 2, 0, 0, 0, .int (nI (6)))] = true := by decide +kernel
theorem dc_X5_idle_17 : decode (AM.bytes M_X5_idle) 17 = .ok (.invokevirtual 62, 3) := by decide +kernel
theorem dc_X5_idle_20 : decode (AM.bytes M_X5_idle) 20 = .ok (.ifCond .le 5, 3) := by decide +kernel
theorem g_X5_idle_25_3 : ab_oks M_X5_idle [(25, .aload_n 0, 1, 0, 0, 0, .null), (26, .iload_n 2, 1, 2, 0, 0, .null), (27, .iconst 3, 1, 0, 0, 0, .int (nI (3)))] = true := by decide +kernel
theorem dc_X5_idle_28 : decode (AM.bytes M_X5_idle) 28 = .ok (.invokevirtual 62, 3) := by decide +kernel
theorem g_X5_idle_31_3 : ab_oks M_X5_idle [(31, .aload_n 0, 1, 0, 0, 0, .null), (32, .iload_n 1, 1, 1, 0, 0, .null), (33, .iconst 1, 1, 0, 0, 0, .int (nI (1)))] = true := by decide +kernel
theorem lk_5_72 : ab_lkV "LeafCradlesModel" 72 M_X5_ofCradle 2 [1045, 1047, 41, 97, 1048] = true := by decide +kernel
theorem dc_X5_idle_34 : decode (AM.bytes M_X5_idle) 34 = .ok (.invokevirtual 72, 3) := by decide +kernel
theorem dc_X5_idle_37 : decode (AM.bytes M_X5_idle) 37 = .ok (.if_icmp .le 7, 3) := by decide +kernel
theorem g_X5_idle_44_2 : ab_oks M_X5_idle [(44, .aload_n 0, 1, 0, 0, 0, .null), (45, .iload_n 2, 1, 2, 0, 0, .null)] = true := by decide +kernel
theorem lk_5_75 : ab_lkV "LeafCradlesModel" 75 M_X5_nextLeaf 1 [1049, 1051, 42, 97, 1052] = true := by decide +kernel
theorem dc_X5_idle_46 : decode (AM.bytes M_X5_idle) 46 = .ok (.invokevirtual 75, 3) := by decide +kernel
theorem g_X5_idle_49_1 : ab_oks M_X5_idle [(49, .iconst (-1), 1, 0, 0, 0, .int (-1))] = true := by decide +kernel
theorem dc_X5_idle_50 : decode (AM.bytes M_X5_idle) 50 = .ok (.if_icmp .ne 7, 3) := by decide +kernel
theorem g_X5_idle_57_1 : ab_oks M_X5_idle [(57, .iconst 0, 1, 0, 0, 0, .int (nI (0)))] = true := by decide +kernel
theorem dc_X5_idle_58 : decode (AM.bytes M_X5_idle) 58 = .ok (.ireturn, 1) := by decide +kernel
theorem g_X5_idle_53_2 : ab_oks M_X5_idle [(53, .iconst 4, 1, 0, 0, 0, .int (nI (4))), (54, .goto 4, 3, 58, 0, 0, .null)] = true := by decide +kernel
theorem g_X5_idle_40_2 : ab_oks M_X5_idle [(40, .iconst 3, 1, 0, 0, 0, .int (nI (3))), (41, .goto 17, 3, 58, 0, 0, .null)] = true := by decide +kernel
theorem g_X5_idle_23_1 : ab_oks M_X5_idle [(23, .iconst 2, 1, 0, 0, 0, .int (nI (2)))] = true := by decide +kernel
theorem dc_X5_idle_24 : decode (AM.bytes M_X5_idle) 24 = .ok (.ireturn, 1) := by decide +kernel
set_option maxRecDepth 100000 in
set_option maxHeartbeats 4000000 in
theorem s_idle {E : AE} (d : Nat) (c : Nat) (hc : c < 4) {nv : Nat} {o0 a0 t0 p0 u0 l0 : List AC} {z sa ro te fr to un ga pi be : Nat → Int32} {bm en sta sv ln th : Int32} {hh : Int64} (hnv : z 0 = nI nv) (h12 : nv ≤ 12) (hLV : LV z nv) : CT E M_X5_idle (d + 2) [.ref 16384, .int (nI (c))] (hp o0 a0 t0 p0 (mo z sa ro te fr to un ga pi be bm en sta sv ln th hh) u0 l0) (.inl (some (.int (idZ z nv c)))) (hp o0 a0 t0 p0 (mo z sa ro te fr to un ga pi be bm en sta sv ln th hh) u0 l0) 0 0 := by
  refine CT.of (L := [some (.ref 16384), some (.int (nI (c))), none]) rfl rfl ?_
  refine AR.run g_X5_idle_0_2 2 [some (.ref 16384), some (.int (nI (c))), none] [.int (nI (c)), .ref 16384] _ [] rfl trivial ?_
  refine AR.callV1 (16384) [.int (nI (c))] [] lk_5_69 dc_X5_idle_2 rfl rfl (s_volumeOn _ (nI (c)) hnv h12) (by first | rfl | (simp only [nI_add, pk_mul]; first | done | rfl)) rfl ?_
  refine AR.run g_X5_idle_5_1 6 [some (.ref 16384), some (.int (nI (c))), some (.int (oI (vo z (nI (c)) nv)))] [] _ [] rfl trivial ?_
  rcases vo_cases z (nI c) nv with hvo | ⟨v, hvo, hvn⟩
  · refine AR.cast (L' := [some (.ref 16384), some (.int (nI (c))), some (.int (-1))]) (st' := []) (by rw [hvo]; rfl) rfl rfl ?_
    refine AR.run g_X5_idle_6_2 8 [some (.ref 16384), some (.int (nI (c))), some (.int (-1))] [.int (-1), .int (-1)] _ [] rfl trivial ?_
    refine AR.ne2 (tgt := 13) dc_X5_idle_8 (by decide) (fun c8_1 => absurd c8_1 (fun q => q rfl)) (fun c8_1 => ?_)
    refine AR.run g_X5_idle_11_1 12 [some (.ref 16384), some (.int (nI (c))), some (.int (-1))] [.int (nI (1))] _ [] rfl trivial ?_
    exact AR.retI dc_X5_idle_12 rfl (by first | (simp only [idZ, hvo]; done) | (simp only [idZ, hvo]; (try simp only [nlO_iff (hLV v hvn).2] at *); (repeat' split) <;> first | rfl | (exfalso; first | contradiction | (simp_all; done) | (simp only [Int32.lt_iff_toInt_lt, Int32.le_iff_toInt_le, ← Int32.toInt_inj] at *; omega)))) rfl
  · refine AR.cast (L' := [some (.ref 16384), some (.int (nI (c))), some (.int (nI (v)))]) (st' := []) (by rw [hvo]; rfl) rfl rfl ?_
    refine AR.run g_X5_idle_6_2 8 [some (.ref 16384), some (.int (nI (c))), some (.int (nI (v)))] [.int (-1), .int (nI (v))] _ [] rfl trivial ?_
    refine AR.ne2 (tgt := 13) dc_X5_idle_8 (by decide) (fun c8_2 => ?_) (fun c8_2 => absurd c8_2 (nI_m1 (by omega)))
    refine AR.run g_X5_idle_13_3 17 [some (.ref 16384), some (.int (nI (c))), some (.int (nI (v)))] [.int (nI (6)), .int (nI (v)), .ref 16384] _ [] rfl trivial ?_
    refine AR.callV1 (16384) [.int (nI (v)), .int (nI (6))] [] lk_5_62 dc_X5_idle_17 rfl rfl (s_ofVolume _ v 6 (by omega) (by omega)) (by first | rfl | (simp only [nI_add, pk_mul]; first | done | rfl)) rfl ?_
    refine AR.le (tgt := 25) dc_X5_idle_20 (by decide) (fun c20_3 => ?_) (fun c20_3 => ?_)
    · refine AR.run g_X5_idle_25_3 28 [some (.ref 16384), some (.int (nI (c))), some (.int (nI (v)))] [.int (nI (3)), .int (nI (v)), .ref 16384] _ [] rfl trivial ?_
      refine AR.callV1 (16384) [.int (nI (v)), .int (nI (3))] [] lk_5_62 dc_X5_idle_28 rfl rfl (s_ofVolume _ v 3 (by omega) (by omega)) (by first | rfl | (simp only [nI_add, pk_mul]; first | done | rfl)) rfl ?_
      refine AR.run g_X5_idle_31_3 34 [some (.ref 16384), some (.int (nI (c))), some (.int (nI (v)))] [.int (nI (1)), .int (nI (c)), .ref 16384, .int (z (11 + 7 * v + 3))] _ [] rfl trivial ?_
      refine AR.callV1 (16384) [.int (nI (c)), .int (nI (1))] [.int (z (11 + 7 * v + 3))] lk_5_72 dc_X5_idle_34 rfl rfl (s_ofCradle _ c 1 (by omega) (by omega)) (by first | rfl | (simp only [nI_add, pk_mul]; first | done | rfl)) rfl ?_
      refine AR.le2 (tgt := 44) dc_X5_idle_37 (by decide) (fun c37_4 => ?_) (fun c37_4 => ?_)
      · refine AR.run g_X5_idle_44_2 46 [some (.ref 16384), some (.int (nI (c))), some (.int (nI (v)))] [.int (nI (v)), .ref 16384] _ [] rfl trivial ?_
        refine AR.callV1 (16384) [.int (nI (v))] [] lk_5_75 dc_X5_idle_46 rfl rfl (s_nextLeaf _ v (by omega) (hLV v (by omega)).1 (hLV v (by omega)).2) (by first | rfl | (simp only [nI_add, pk_mul]; first | done | rfl)) rfl ?_
        refine AR.run g_X5_idle_49_1 50 [some (.ref 16384), some (.int (nI (c))), some (.int (nI (v)))] [.int (-1), .int (oI (nlO z v (lv z v)))] _ [] rfl trivial ?_
        refine AR.ne2 (tgt := 57) dc_X5_idle_50 (by decide) (fun c50_5 => ?_) (fun c50_5 => ?_)
        · refine AR.run g_X5_idle_57_1 58 [some (.ref 16384), some (.int (nI (c))), some (.int (nI (v)))] [.int (nI (0))] _ [] rfl trivial ?_
          exact AR.retI dc_X5_idle_58 rfl (by first | (simp only [idZ, hvo]; done) | (simp only [idZ, hvo]; (try simp only [nlO_iff (hLV v hvn).2] at *); (repeat' split) <;> first | rfl | (exfalso; first | contradiction | (simp_all; done) | (simp only [Int32.lt_iff_toInt_lt, Int32.le_iff_toInt_le, ← Int32.toInt_inj] at *; omega)))) rfl
        · refine AR.run g_X5_idle_53_2 58 [some (.ref 16384), some (.int (nI (c))), some (.int (nI (v)))] [.int (nI (4))] _ [] rfl trivial ?_
          exact AR.retI dc_X5_idle_58 rfl (by first | (simp only [idZ, hvo]; done) | (simp only [idZ, hvo]; (try simp only [nlO_iff (hLV v hvn).2] at *); (repeat' split) <;> first | rfl | (exfalso; first | contradiction | (simp_all; done) | (simp only [Int32.lt_iff_toInt_lt, Int32.le_iff_toInt_le, ← Int32.toInt_inj] at *; omega)))) rfl
      · refine AR.run g_X5_idle_40_2 58 [some (.ref 16384), some (.int (nI (c))), some (.int (nI (v)))] [.int (nI (3))] _ [] rfl trivial ?_
        exact AR.retI dc_X5_idle_58 rfl (by first | (simp only [idZ, hvo]; done) | (simp only [idZ, hvo]; (try simp only [nlO_iff (hLV v hvn).2] at *); (repeat' split) <;> first | rfl | (exfalso; first | contradiction | (simp_all; done) | (simp only [Int32.lt_iff_toInt_lt, Int32.le_iff_toInt_le, ← Int32.toInt_inj] at *; omega)))) rfl
    · refine AR.run g_X5_idle_23_1 24 [some (.ref 16384), some (.int (nI (c))), some (.int (nI (v)))] [.int (nI (2))] _ [] rfl trivial ?_
      exact AR.retI dc_X5_idle_24 rfl (by first | (simp only [idZ, hvo]; done) | (simp only [idZ, hvo]; (try simp only [nlO_iff (hLV v hvn).2] at *); (repeat' split) <;> first | rfl | (exfalso; first | contradiction | (simp_all; done) | (simp only [Int32.lt_iff_toInt_lt, Int32.le_iff_toInt_le, ← Int32.toInt_inj] at *; omega)))) rfl
/-- why a volume can't be brought -/
def rsZ (z : Nat → Int32) (nv ne v c r : Nat) : Int32 := if 0 < z (11 + 7 * v + 5) then nI 1 else if 0 < z (11 + 7 * v + 6) then nI 2 else if vo z (nI c) nv ≠ none then nI 3 else if z (95 + 4 * c + 0) < z (11 + 7 * v + 1) then nI 4 else if z (95 + 4 * c + 1) < z (11 + 7 * v + 3) then nI 5 else if nlO z v (lv z v) = none then nI 6 else if 0 < z (111 + 4 * r + 1) then nI 7 else if ne = 60 then nI 8 else nI 0
theorem vo_iff {z : Nat → Int32} {c : Int32} {n : Nat} (h : n ≤ 12) : oI (vo z c n) = -1 ↔ vo z c n = none := oI_iff fun q hq => by have := vo_some hq; omega
theorem g_X5_reason_0_3 : ab_oks M_X5_reason [(0, .aload_n 0, 1, 0, 0, 0, .null), (1, .iload_n 1, 1, 1, 0, 0, .null), (2, .iconst 5, 1, 0, 0, 0, .int (nI (5)))] = true := by decide +kernel
theorem dc_X5_reason_3 : decode (AM.bytes M_X5_reason) 3 = .ok (.invokevirtual 62, 3) := by decide +kernel
theorem dc_X5_reason_6 : decode (AM.bytes M_X5_reason) 6 = .ok (.ifCond .le 5, 3) := by decide +kernel
theorem g_X5_reason_11_3 : ab_oks M_X5_reason [(11, .aload_n 0, 1, 0, 0, 0, .null), (12, .iload_n 1, 1, 1, 0, 0, .null), (13, .bipush 6, 2, 0, 0, 0, .int (nI (6)))] = true := by decide +kernel
theorem dc_X5_reason_15 : decode (AM.bytes M_X5_reason) 15 = .ok (.invokevirtual 62, 3) := by decide +kernel
theorem dc_X5_reason_18 : decode (AM.bytes M_X5_reason) 18 = .ok (.ifCond .le 5, 3) := by decide +kernel
theorem g_X5_reason_23_2 : ab_oks M_X5_reason [(23, .aload_n 0, 1, 0, 0, 0, .null), (24, .iload_n 2, 1, 2, 0, 0, .null)] = true := by decide +kernel
theorem dc_X5_reason_25 : decode (AM.bytes M_X5_reason) 25 = .ok (.invokevirtual 69, 3) := by decide +kernel
theorem g_X5_reason_28_1 : ab_oks M_X5_reason [(28, .iconst (-1), 1, 0, 0, 0, .int (-1))] = true := by decide +kernel
theorem dc_X5_reason_29 : decode (AM.bytes M_X5_reason) 29 = .ok (.if_icmp .eq 5, 3) := by decide +kernel
theorem g_X5_reason_34_3 : ab_oks M_X5_reason [(34, .aload_n 0, 1, 0, 0, 0, .null), (35, .iload_n 2, 1, 2, 0, 0, .null), (36, .iconst 0, 1, 0, 0, 0, .int (nI (0)))] = true := by decide +kernel
theorem dc_X5_reason_37 : decode (AM.bytes M_X5_reason) 37 = .ok (.invokevirtual 72, 3) := by decide +kernel
theorem g_X5_reason_40_3 : ab_oks M_X5_reason [(40, .aload_n 0, 1, 0, 0, 0, .null), (41, .iload_n 1, 1, 1, 0, 0, .null), (42, .iconst 1, 1, 0, 0, 0, .int (nI (1)))] = true := by decide +kernel
theorem dc_X5_reason_43 : decode (AM.bytes M_X5_reason) 43 = .ok (.invokevirtual 62, 3) := by decide +kernel
theorem dc_X5_reason_46 : decode (AM.bytes M_X5_reason) 46 = .ok (.if_icmp .ge 5, 3) := by decide +kernel
theorem g_X5_reason_51_3 : ab_oks M_X5_reason [(51, .aload_n 0, 1, 0, 0, 0, .null), (52, .iload_n 1, 1, 1, 0, 0, .null), (53, .iconst 3, 1, 0, 0, 0, .int (nI (3)))] = true := by decide +kernel
theorem dc_X5_reason_54 : decode (AM.bytes M_X5_reason) 54 = .ok (.invokevirtual 62, 3) := by decide +kernel
theorem g_X5_reason_57_3 : ab_oks M_X5_reason [(57, .aload_n 0, 1, 0, 0, 0, .null), (58, .iload_n 2, 1, 2, 0, 0, .null), (59, .iconst 1, 1, 0, 0, 0, .int (nI (1)))] = true := by decide +kernel
theorem dc_X5_reason_60 : decode (AM.bytes M_X5_reason) 60 = .ok (.invokevirtual 72, 3) := by decide +kernel
theorem dc_X5_reason_63 : decode (AM.bytes M_X5_reason) 63 = .ok (.if_icmp .le 5, 3) := by decide +kernel
theorem g_X5_reason_68_2 : ab_oks M_X5_reason [(68, .aload_n 0, 1, 0, 0, 0, .null), (69, .iload_n 1, 1, 1, 0, 0, .null)] = true := by decide +kernel
theorem dc_X5_reason_70 : decode (AM.bytes M_X5_reason) 70 = .ok (.invokevirtual 75, 3) := by decide +kernel
theorem g_X5_reason_73_1 : ab_oks M_X5_reason [(73, .iconst (-1), 1, 0, 0, 0, .int (-1))] = true := by decide +kernel
theorem dc_X5_reason_74 : decode (AM.bytes M_X5_reason) 74 = .ok (.if_icmp .ne 8, 3) := by decide +kernel
theorem g_X5_reason_82_3 : ab_oks M_X5_reason [(82, .aload_n 0, 1, 0, 0, 0, .null), (83, .iload_n 3, 1, 3, 0, 0, .null), (84, .iconst 1, 1, 0, 0, 0, .int (nI (1)))] = true := by decide +kernel
theorem dc_X5_reason_85 : decode (AM.bytes M_X5_reason) 85 = .ok (.invokevirtual 58, 3) := by decide +kernel
theorem dc_X5_reason_88 : decode (AM.bytes M_X5_reason) 88 = .ok (.ifCond .le 8, 3) := by decide +kernel
theorem g_X5_reason_96_1 : ab_oks M_X5_reason [(96, .aload_n 0, 1, 0, 0, 0, .null)] = true := by decide +kernel
theorem lk_5_78 : ab_lkV "LeafCradlesModel" 78 M_X5_isLogFull 0 [1061, 1063, 45, 97, 1064] = true := by decide +kernel
theorem dc_X5_reason_97 : decode (AM.bytes M_X5_reason) 97 = .ok (.invokevirtual 78, 3) := by decide +kernel
theorem dc_X5_reason_100 : decode (AM.bytes M_X5_reason) 100 = .ok (.ifCond .eq 8, 3) := by decide +kernel
theorem g_X5_reason_103_2 : ab_oks M_X5_reason [(103, .bipush 8, 2, 0, 0, 0, .int (nI (8))), (105, .goto 4, 3, 109, 0, 0, .null)] = true := by decide +kernel
theorem dc_X5_reason_109 : decode (AM.bytes M_X5_reason) 109 = .ok (.ireturn, 1) := by decide +kernel
theorem g_X5_reason_108_1 : ab_oks M_X5_reason [(108, .iconst 0, 1, 0, 0, 0, .int (nI (0)))] = true := by decide +kernel
theorem g_X5_reason_91_2 : ab_oks M_X5_reason [(91, .bipush 7, 2, 0, 0, 0, .int (nI (7))), (93, .goto 16, 3, 109, 0, 0, .null)] = true := by decide +kernel
theorem g_X5_reason_77_2 : ab_oks M_X5_reason [(77, .bipush 6, 2, 0, 0, 0, .int (nI (6))), (79, .goto 30, 3, 109, 0, 0, .null)] = true := by decide +kernel
theorem g_X5_reason_66_1 : ab_oks M_X5_reason [(66, .iconst 5, 1, 0, 0, 0, .int (nI (5)))] = true := by decide +kernel
theorem dc_X5_reason_67 : decode (AM.bytes M_X5_reason) 67 = .ok (.ireturn, 1) := by decide +kernel
theorem g_X5_reason_49_1 : ab_oks M_X5_reason [(49, .iconst 4, 1, 0, 0, 0, .int (nI (4)))] = true := by decide +kernel
theorem dc_X5_reason_50 : decode (AM.bytes M_X5_reason) 50 = .ok (.ireturn, 1) := by decide +kernel
theorem g_X5_reason_32_1 : ab_oks M_X5_reason [(32, .iconst 3, 1, 0, 0, 0, .int (nI (3)))] = true := by decide +kernel
theorem dc_X5_reason_33 : decode (AM.bytes M_X5_reason) 33 = .ok (.ireturn, 1) := by decide +kernel
theorem g_X5_reason_21_1 : ab_oks M_X5_reason [(21, .iconst 2, 1, 0, 0, 0, .int (nI (2)))] = true := by decide +kernel
theorem dc_X5_reason_22 : decode (AM.bytes M_X5_reason) 22 = .ok (.ireturn, 1) := by decide +kernel
theorem g_X5_reason_9_1 : ab_oks M_X5_reason [(9, .iconst 1, 1, 0, 0, 0, .int (nI (1)))] = true := by decide +kernel
theorem dc_X5_reason_10 : decode (AM.bytes M_X5_reason) 10 = .ok (.ireturn, 1) := by decide +kernel
set_option maxRecDepth 100000 in
set_option maxHeartbeats 4000000 in
theorem s_reason {E : AE} (d : Nat) (v c r : Nat) {nv ne : Nat} (hv : v < nv) (hc : c < 4) (hr : r < 3) {o0 a0 t0 p0 u0 l0 : List AC} {z sa ro te fr to un ga pi be : Nat → Int32} {bm en sta sv ln th : Int32} {hh : Int64} (hnv : z 0 = nI nv) (h12 : nv ≤ 12) (hLV : LV z nv) (hne : z 5 = nI ne) (h60 : ne ≤ 60) : CT E M_X5_reason (d + 2) [.ref 16384, .int (nI (v)), .int (nI (c)), .int (nI (r))] (hp o0 a0 t0 p0 (mo z sa ro te fr to un ga pi be bm en sta sv ln th hh) u0 l0) (.inl (some (.int (rsZ z nv ne v c r)))) (hp o0 a0 t0 p0 (mo z sa ro te fr to un ga pi be bm en sta sv ln th hh) u0 l0) 0 0 := by
  refine CT.of (L := [some (.ref 16384), some (.int (nI (v))), some (.int (nI (c))), some (.int (nI (r)))]) rfl rfl ?_
  refine AR.run g_X5_reason_0_3 3 [some (.ref 16384), some (.int (nI (v))), some (.int (nI (c))), some (.int (nI (r)))] [.int (nI (5)), .int (nI (v)), .ref 16384] _ [] rfl trivial ?_
  refine AR.callV1 (16384) [.int (nI (v)), .int (nI (5))] [] lk_5_62 dc_X5_reason_3 rfl rfl (s_ofVolume _ v 5 (by omega) (by omega)) (by first | rfl | (simp only [nI_add, pk_mul]; first | done | rfl)) rfl ?_
  refine AR.le (tgt := 11) dc_X5_reason_6 (by decide) (fun c6_1 => ?_) (fun c6_1 => ?_)
  · refine AR.run g_X5_reason_11_3 15 [some (.ref 16384), some (.int (nI (v))), some (.int (nI (c))), some (.int (nI (r)))] [.int (nI (6)), .int (nI (v)), .ref 16384] _ [] rfl trivial ?_
    refine AR.callV1 (16384) [.int (nI (v)), .int (nI (6))] [] lk_5_62 dc_X5_reason_15 rfl rfl (s_ofVolume _ v 6 (by omega) (by omega)) (by first | rfl | (simp only [nI_add, pk_mul]; first | done | rfl)) rfl ?_
    refine AR.le (tgt := 23) dc_X5_reason_18 (by decide) (fun c18_2 => ?_) (fun c18_2 => ?_)
    · refine AR.run g_X5_reason_23_2 25 [some (.ref 16384), some (.int (nI (v))), some (.int (nI (c))), some (.int (nI (r)))] [.int (nI (c)), .ref 16384] _ [] rfl trivial ?_
      refine AR.callV1 (16384) [.int (nI (c))] [] lk_5_69 dc_X5_reason_25 rfl rfl (s_volumeOn _ (nI (c)) hnv h12) (by first | rfl | (simp only [nI_add, pk_mul]; first | done | rfl)) rfl ?_
      refine AR.run g_X5_reason_28_1 29 [some (.ref 16384), some (.int (nI (v))), some (.int (nI (c))), some (.int (nI (r)))] [.int (-1), .int (oI (vo z (nI (c)) nv))] _ [] rfl trivial ?_
      refine AR.eq2 (tgt := 34) dc_X5_reason_29 (by decide) (fun c29_3 => ?_) (fun c29_3 => ?_)
      · refine AR.run g_X5_reason_34_3 37 [some (.ref 16384), some (.int (nI (v))), some (.int (nI (c))), some (.int (nI (r)))] [.int (nI (0)), .int (nI (c)), .ref 16384] _ [] rfl trivial ?_
        refine AR.callV1 (16384) [.int (nI (c)), .int (nI (0))] [] lk_5_72 dc_X5_reason_37 rfl rfl (s_ofCradle _ c 0 (by omega) (by omega)) (by first | rfl | (simp only [nI_add, pk_mul]; first | done | rfl)) rfl ?_
        refine AR.run g_X5_reason_40_3 43 [some (.ref 16384), some (.int (nI (v))), some (.int (nI (c))), some (.int (nI (r)))] [.int (nI (1)), .int (nI (v)), .ref 16384, .int (z (95 + 4 * c + 0))] _ [] rfl trivial ?_
        refine AR.callV1 (16384) [.int (nI (v)), .int (nI (1))] [.int (z (95 + 4 * c + 0))] lk_5_62 dc_X5_reason_43 rfl rfl (s_ofVolume _ v 1 (by omega) (by omega)) (by first | rfl | (simp only [nI_add, pk_mul]; first | done | rfl)) rfl ?_
        refine AR.ge2 (tgt := 51) dc_X5_reason_46 (by decide) (fun c46_4 => ?_) (fun c46_4 => ?_)
        · refine AR.run g_X5_reason_51_3 54 [some (.ref 16384), some (.int (nI (v))), some (.int (nI (c))), some (.int (nI (r)))] [.int (nI (3)), .int (nI (v)), .ref 16384] _ [] rfl trivial ?_
          refine AR.callV1 (16384) [.int (nI (v)), .int (nI (3))] [] lk_5_62 dc_X5_reason_54 rfl rfl (s_ofVolume _ v 3 (by omega) (by omega)) (by first | rfl | (simp only [nI_add, pk_mul]; first | done | rfl)) rfl ?_
          refine AR.run g_X5_reason_57_3 60 [some (.ref 16384), some (.int (nI (v))), some (.int (nI (c))), some (.int (nI (r)))] [.int (nI (1)), .int (nI (c)), .ref 16384, .int (z (11 + 7 * v + 3))] _ [] rfl trivial ?_
          refine AR.callV1 (16384) [.int (nI (c)), .int (nI (1))] [.int (z (11 + 7 * v + 3))] lk_5_72 dc_X5_reason_60 rfl rfl (s_ofCradle _ c 1 (by omega) (by omega)) (by first | rfl | (simp only [nI_add, pk_mul]; first | done | rfl)) rfl ?_
          refine AR.le2 (tgt := 68) dc_X5_reason_63 (by decide) (fun c63_5 => ?_) (fun c63_5 => ?_)
          · refine AR.run g_X5_reason_68_2 70 [some (.ref 16384), some (.int (nI (v))), some (.int (nI (c))), some (.int (nI (r)))] [.int (nI (v)), .ref 16384] _ [] rfl trivial ?_
            refine AR.callV1 (16384) [.int (nI (v))] [] lk_5_75 dc_X5_reason_70 rfl rfl (s_nextLeaf _ v (by omega) (hLV v (by omega)).1 (hLV v (by omega)).2) (by first | rfl | (simp only [nI_add, pk_mul]; first | done | rfl)) rfl ?_
            refine AR.run g_X5_reason_73_1 74 [some (.ref 16384), some (.int (nI (v))), some (.int (nI (c))), some (.int (nI (r)))] [.int (-1), .int (oI (nlO z v (lv z v)))] _ [] rfl trivial ?_
            refine AR.ne2 (tgt := 82) dc_X5_reason_74 (by decide) (fun c74_6 => ?_) (fun c74_6 => ?_)
            · refine AR.run g_X5_reason_82_3 85 [some (.ref 16384), some (.int (nI (v))), some (.int (nI (c))), some (.int (nI (r)))] [.int (nI (1)), .int (nI (r)), .ref 16384] _ [] rfl trivial ?_
              refine AR.callV1 (16384) [.int (nI (r)), .int (nI (1))] [] lk_5_58 dc_X5_reason_85 rfl rfl (s_ofCarrier _ r 1 (by omega) (by omega)) (by first | rfl | (simp only [nI_add, pk_mul]; first | done | rfl)) rfl ?_
              refine AR.le (tgt := 96) dc_X5_reason_88 (by decide) (fun c88_7 => ?_) (fun c88_7 => ?_)
              · refine AR.run g_X5_reason_96_1 97 [some (.ref 16384), some (.int (nI (v))), some (.int (nI (c))), some (.int (nI (r)))] [.ref 16384] _ [] rfl trivial ?_
                refine AR.callV1 (16384) [] [] lk_5_78 dc_X5_reason_97 rfl rfl (s_isLogFull _  hne h60) (by first | rfl | (simp only [nI_add, pk_mul]; first | done | rfl)) rfl ?_
                by_cases hb9 : ne = 60
                · refine AR.cast (L' := [some (.ref 16384), some (.int (nI (v))), some (.int (nI (c))), some (.int (nI (r)))]) (st' := [.int (nI (1))]) rfl (by rw [bi, if_pos hb9]; rfl) rfl ?_
                  refine AR.eqN (tgt := 108) dc_X5_reason_100 (by decide) (by first | rfl | (simp only [nI_add, pk_mul]; first | done | rfl)) (by omega) (fun c100_8 => absurd c100_8 (by omega)) (fun c100_8 => ?_)
                  refine AR.run g_X5_reason_103_2 109 [some (.ref 16384), some (.int (nI (v))), some (.int (nI (c))), some (.int (nI (r)))] [.int (nI (8))] _ [] rfl trivial ?_
                  exact AR.retI dc_X5_reason_109 rfl (by first | (simp only [rsZ]; done) | (simp only [rsZ]; (try simp only [nlO_iff (hLV v hv).2, vo_iff h12] at *); (repeat' split) <;> first | rfl | (exfalso; first | contradiction | (simp_all; done) | (simp only [Int32.lt_iff_toInt_lt, Int32.le_iff_toInt_le, ← Int32.toInt_inj] at *; omega)))) rfl
                · refine AR.cast (L' := [some (.ref 16384), some (.int (nI (v))), some (.int (nI (c))), some (.int (nI (r)))]) (st' := [.int (nI (0))]) rfl (by rw [bi, if_neg hb9]; rfl) rfl ?_
                  refine AR.eqN (tgt := 108) dc_X5_reason_100 (by decide) (by first | rfl | (simp only [nI_add, pk_mul]; first | done | rfl)) (by omega) (fun c100_9 => ?_) (fun c100_9 => absurd c100_9 (by omega))
                  refine AR.run g_X5_reason_108_1 109 [some (.ref 16384), some (.int (nI (v))), some (.int (nI (c))), some (.int (nI (r)))] [.int (nI (0))] _ [] rfl trivial ?_
                  exact AR.retI dc_X5_reason_109 rfl (by first | (simp only [rsZ]; done) | (simp only [rsZ]; (try simp only [nlO_iff (hLV v hv).2, vo_iff h12] at *); (repeat' split) <;> first | rfl | (exfalso; first | contradiction | (simp_all; done) | (simp only [Int32.lt_iff_toInt_lt, Int32.le_iff_toInt_le, ← Int32.toInt_inj] at *; omega)))) rfl
              · refine AR.run g_X5_reason_91_2 109 [some (.ref 16384), some (.int (nI (v))), some (.int (nI (c))), some (.int (nI (r)))] [.int (nI (7))] _ [] rfl trivial ?_
                exact AR.retI dc_X5_reason_109 rfl (by first | (simp only [rsZ]; done) | (simp only [rsZ]; (try simp only [nlO_iff (hLV v hv).2, vo_iff h12] at *); (repeat' split) <;> first | rfl | (exfalso; first | contradiction | (simp_all; done) | (simp only [Int32.lt_iff_toInt_lt, Int32.le_iff_toInt_le, ← Int32.toInt_inj] at *; omega)))) rfl
            · refine AR.run g_X5_reason_77_2 109 [some (.ref 16384), some (.int (nI (v))), some (.int (nI (c))), some (.int (nI (r)))] [.int (nI (6))] _ [] rfl trivial ?_
              exact AR.retI dc_X5_reason_109 rfl (by first | (simp only [rsZ]; done) | (simp only [rsZ]; (try simp only [nlO_iff (hLV v hv).2, vo_iff h12] at *); (repeat' split) <;> first | rfl | (exfalso; first | contradiction | (simp_all; done) | (simp only [Int32.lt_iff_toInt_lt, Int32.le_iff_toInt_le, ← Int32.toInt_inj] at *; omega)))) rfl
          · refine AR.run g_X5_reason_66_1 67 [some (.ref 16384), some (.int (nI (v))), some (.int (nI (c))), some (.int (nI (r)))] [.int (nI (5))] _ [] rfl trivial ?_
            exact AR.retI dc_X5_reason_67 rfl (by first | (simp only [rsZ]; done) | (simp only [rsZ]; (try simp only [nlO_iff (hLV v hv).2, vo_iff h12] at *); (repeat' split) <;> first | rfl | (exfalso; first | contradiction | (simp_all; done) | (simp only [Int32.lt_iff_toInt_lt, Int32.le_iff_toInt_le, ← Int32.toInt_inj] at *; omega)))) rfl
        · refine AR.run g_X5_reason_49_1 50 [some (.ref 16384), some (.int (nI (v))), some (.int (nI (c))), some (.int (nI (r)))] [.int (nI (4))] _ [] rfl trivial ?_
          exact AR.retI dc_X5_reason_50 rfl (by first | (simp only [rsZ]; done) | (simp only [rsZ]; (try simp only [nlO_iff (hLV v hv).2, vo_iff h12] at *); (repeat' split) <;> first | rfl | (exfalso; first | contradiction | (simp_all; done) | (simp only [Int32.lt_iff_toInt_lt, Int32.le_iff_toInt_le, ← Int32.toInt_inj] at *; omega)))) rfl
      · refine AR.run g_X5_reason_32_1 33 [some (.ref 16384), some (.int (nI (v))), some (.int (nI (c))), some (.int (nI (r)))] [.int (nI (3))] _ [] rfl trivial ?_
        exact AR.retI dc_X5_reason_33 rfl (by first | (simp only [rsZ]; done) | (simp only [rsZ]; (try simp only [nlO_iff (hLV v hv).2, vo_iff h12] at *); (repeat' split) <;> first | rfl | (exfalso; first | contradiction | (simp_all; done) | (simp only [Int32.lt_iff_toInt_lt, Int32.le_iff_toInt_le, ← Int32.toInt_inj] at *; omega)))) rfl
    · refine AR.run g_X5_reason_21_1 22 [some (.ref 16384), some (.int (nI (v))), some (.int (nI (c))), some (.int (nI (r)))] [.int (nI (2))] _ [] rfl trivial ?_
      exact AR.retI dc_X5_reason_22 rfl (by first | (simp only [rsZ]; done) | (simp only [rsZ]; (try simp only [nlO_iff (hLV v hv).2, vo_iff h12] at *); (repeat' split) <;> first | rfl | (exfalso; first | contradiction | (simp_all; done) | (simp only [Int32.lt_iff_toInt_lt, Int32.le_iff_toInt_le, ← Int32.toInt_inj] at *; omega)))) rfl
  · refine AR.run g_X5_reason_9_1 10 [some (.ref 16384), some (.int (nI (v))), some (.int (nI (c))), some (.int (nI (r)))] [.int (nI (1))] _ [] rfl trivial ?_
    exact AR.retI dc_X5_reason_10 rfl (by first | (simp only [rsZ]; done) | (simp only [rsZ]; (try simp only [nlO_iff (hLV v hv).2, vo_iff h12] at *); (repeat' split) <;> first | rfl | (exfalso; first | contradiction | (simp_all; done) | (simp only [Int32.lt_iff_toInt_lt, Int32.le_iff_toInt_le, ← Int32.toInt_inj] at *; omega)))) rfl
/-- the first k places of g are those of f -/
def cpK (f g : Nat → Int32) (n : Nat) : Nat → Int32 := fun i => if i < n then f i else g i
theorem cpK_0 (f g : Nat → Int32) : cpK f g 0 = g := by funext i; simp [cpK]
theorem cpK_s (f g : Nat → Int32) (n : Nat) : upd (cpK f g n) n (f n) = cpK f g (n + 1) := by
  funext i
  unfold upd cpK
  by_cases h : i = n
  · subst h; simp
  · by_cases h2 : i < n
    · simp [h, h2, Nat.lt_succ_of_lt h2]
    · have : ¬ i < n + 1 := by omega
      simp [h, h2, this]
theorem g_X5_keep_0_2 : ab_oks M_X5_keep [(0, .iconst 0, 1, 0, 0, 0, .int (nI (0))), (1, .istore_n 1, 1, 1, 0, 0, .null)] = true := by decide +kernel
theorem g_X5_keep_2_2 : ab_oks M_X5_keep [(2, .iload_n 1, 1, 1, 0, 0, .null), (3, .sipush 1863, 3, 0, 0, 0, .int (nI (1863)))] = true := by decide +kernel
theorem dc_X5_keep_6 : decode (AM.bytes M_X5_keep) 6 = .ok (.if_icmp .ge 21, 3) := by decide +kernel
theorem g_X5_keep_9_6 : ab_oks M_X5_keep [(9, .aload_n 0, 1, 0, 0, 0, .null), (10, .getfield 13, 3, 5, 1, 931, .null), (13, .iload_n 1, 1, 1, 0, 0, .null), (14, .aload_n 0, 1, 0, 0, 0, .null), (15, .getfield 7, 3, 5, 0, 930, .null), (18, .iload_n 1, 1, 1, 0, 0, .null)] = true := by decide +kernel
theorem ok_X5_keep_19 : ab_ok M_X5_keep (19, .iaload, 1, 0, 0, 0, .null) = true := by decide +kernel
theorem ok_X5_keep_20 : ab_ok M_X5_keep (20, .iastore, 1, 0, 0, 0, .null) = true := by decide +kernel
theorem g_X5_keep_21_2 : ab_oks M_X5_keep [(21, .iinc 1 1, 3, 1, 0, 0, .int (nI (1))), (24, .goto (-22), 3, 2, 0, 0, .null)] = true := by decide +kernel
theorem dc_X5_keep_27 : decode (AM.bytes M_X5_keep) 27 = .ok (.return_, 1) := by decide +kernel
set_option maxRecDepth 100000 in
set_option maxHeartbeats 4000000 in
theorem s_keep {E : AE} (d : Nat) {o0 a0 t0 p0 u0 l0 : List AC} {z sa ro te fr to un ga pi be : Nat → Int32} {bm en sta sv ln th : Int32} {hh : Int64} : CT E M_X5_keep d [.ref 16384] (hp o0 a0 t0 p0 (mo z sa ro te fr to un ga pi be bm en sta sv ln th hh) u0 l0) (.inl none) (hp o0 a0 t0 p0 (mo z (cpK z sa 1863) ro te fr to un ga pi be bm en sta sv ln th hh) u0 l0) 0 0 := by
  refine CT.of (L := [some (.ref 16384), none]) rfl rfl ?_
  refine AR.run g_X5_keep_0_2 2 [some (.ref 16384), some (.int (nI (0)))] [] _ [] rfl trivial ?_
  refine AR.cast (L' := [some (.ref 16384), some (.int (nI (0)))]) (by first | rfl | (rw [cpK_0])) rfl (by first | rfl | (rw [cpK_0])) (AR.loopN 1863 (fun j1 => [some (.ref 16384), some (.int (nI (j1)))]) (fun j1 => (hp o0 a0 t0 p0 (mo z (cpK z sa j1) ro te fr to un ga pi be bm en sta sv ln th hh) u0 l0)) (fun j1 => True) (fun j1 hj2 hI2 ih2 => ?_) (fun hI2 => ?_) 0 (by omega) trivial)
  · refine AR.run g_X5_keep_2_2 6 [some (.ref 16384), some (.int (nI (j1)))] [.int (nI (1863)), .int (nI (j1))] _ [] rfl trivial ?_
    refine AR.ge2N (tgt := 27) dc_X5_keep_6 (by decide) (by first | rfl | (simp only [nI_add, pk_mul]; first | done | rfl)) (by first | rfl | (simp only [nI_add, pk_mul]; first | done | rfl)) (by omega) (by omega) (fun c6_2 => absurd c6_2 (by omega)) (fun c6_2 => ?_)
    refine AR.run g_X5_keep_9_6 19 [some (.ref 16384), some (.int (nI (j1)))] [.int (nI (j1)), .ref 16385, .int (nI (j1)), .ref 16386] _ [] rfl trivial ?_
    refine AR.ald (n := 0) (e := j1) ok_X5_keep_19 (by first | rfl | (simp only [nI_add, pk_mul]; first | done | rfl)) rfl (by omega) (by first | decide | omega) ?_
    refine AR.ast (n := 0) (e := j1) (h1 := (hp o0 a0 t0 p0 (mo z (upd (cpK z sa j1) j1 (z j1)) ro te fr to un ga pi be bm en sta sv ln th hh) u0 l0)) ok_X5_keep_20 (by first | rfl | (simp only [nI_add, pk_mul]; first | done | rfl)) rfl rfl (by omega) (by decide) rfl ?_
    refine AR.run g_X5_keep_21_2 2 [some (.ref 16384), some (.int ((nI (j1)) + (nI (1))))] [] _ [] rfl trivial ?_
    exact AR.cast (L' := [some (.ref 16384), some (.int (nI ((j1 + 1))))]) (by first | rfl | (simp only [nI_add])) rfl (by rw [cpK_s]) (ih2 trivial)
  · refine AR.run g_X5_keep_2_2 6 [some (.ref 16384), some (.int (nI (1863)))] [.int (nI (1863)), .int (nI (1863))] _ [] rfl trivial ?_
    refine AR.ge2N (tgt := 27) dc_X5_keep_6 (by decide) (by first | rfl | (simp only [nI_add, pk_mul]; first | done | rfl)) (by first | rfl | (simp only [nI_add, pk_mul]; first | done | rfl)) (by omega) (by omega) (fun c6_3 => ?_) (fun c6_3 => absurd c6_3 (by omega))
    exact AR.retV dc_X5_keep_27 rfl rfl
theorem g_X5_bring0_0_2 : ab_oks M_X5_bring0 [(0, .iconst 0, 1, 0, 0, 0, .int (nI (0))), (1, .istore_n 1, 1, 1, 0, 0, .null)] = true := by decide +kernel
theorem g_X5_bring0_2_2 : ab_oks M_X5_bring0 [(2, .iload_n 1, 1, 1, 0, 0, .null), (3, .sipush 1863, 3, 0, 0, 0, .int (nI (1863)))] = true := by decide +kernel
theorem dc_X5_bring0_6 : decode (AM.bytes M_X5_bring0) 6 = .ok (.if_icmp .ge 21, 3) := by decide +kernel
theorem g_X5_bring0_9_6 : ab_oks M_X5_bring0 [(9, .aload_n 0, 1, 0, 0, 0, .null), (10, .getfield 7, 3, 5, 0, 930, .null), (13, .iload_n 1, 1, 1, 0, 0, .null), (14, .aload_n 0, 1, 0, 0, 0, .null), (15, .getfield 13, 3, 5, 1, 931, .null), (18, .iload_n 1, 1, 1, 0, 0, .null)] = true := by decide +kernel
theorem ok_X5_bring0_19 : ab_ok M_X5_bring0 (19, .iaload, 1, 0, 0, 0, .null) = true := by decide +kernel
theorem ok_X5_bring0_20 : ab_ok M_X5_bring0 (20, .iastore, 1, 0, 0, 0, .null) = true := by decide +kernel
theorem g_X5_bring0_21_2 : ab_oks M_X5_bring0 [(21, .iinc 1 1, 3, 1, 0, 0, .int (nI (1))), (24, .goto (-22), 3, 2, 0, 0, .null)] = true := by decide +kernel
theorem dc_X5_bring0_27 : decode (AM.bytes M_X5_bring0) 27 = .ok (.return_, 1) := by decide +kernel
set_option maxRecDepth 100000 in
set_option maxHeartbeats 4000000 in
theorem s_bring0 {E : AE} (d : Nat) {o0 a0 t0 p0 u0 l0 : List AC} {z sa ro te fr to un ga pi be : Nat → Int32} {bm en sta sv ln th : Int32} {hh : Int64} : CT E M_X5_bring0 d [.ref 16384] (hp o0 a0 t0 p0 (mo z sa ro te fr to un ga pi be bm en sta sv ln th hh) u0 l0) (.inl none) (hp o0 a0 t0 p0 (mo (cpK sa z 1863) sa ro te fr to un ga pi be bm en sta sv ln th hh) u0 l0) 0 0 := by
  refine CT.of (L := [some (.ref 16384), none]) rfl rfl ?_
  refine AR.run g_X5_bring0_0_2 2 [some (.ref 16384), some (.int (nI (0)))] [] _ [] rfl trivial ?_
  refine AR.cast (L' := [some (.ref 16384), some (.int (nI (0)))]) (by first | rfl | (rw [cpK_0])) rfl (by first | rfl | (rw [cpK_0])) (AR.loopN 1863 (fun j1 => [some (.ref 16384), some (.int (nI (j1)))]) (fun j1 => (hp o0 a0 t0 p0 (mo (cpK sa z j1) sa ro te fr to un ga pi be bm en sta sv ln th hh) u0 l0)) (fun j1 => True) (fun j1 hj2 hI2 ih2 => ?_) (fun hI2 => ?_) 0 (by omega) trivial)
  · refine AR.run g_X5_bring0_2_2 6 [some (.ref 16384), some (.int (nI (j1)))] [.int (nI (1863)), .int (nI (j1))] _ [] rfl trivial ?_
    refine AR.ge2N (tgt := 27) dc_X5_bring0_6 (by decide) (by first | rfl | (simp only [nI_add, pk_mul]; first | done | rfl)) (by first | rfl | (simp only [nI_add, pk_mul]; first | done | rfl)) (by omega) (by omega) (fun c6_2 => absurd c6_2 (by omega)) (fun c6_2 => ?_)
    refine AR.run g_X5_bring0_9_6 19 [some (.ref 16384), some (.int (nI (j1)))] [.int (nI (j1)), .ref 16386, .int (nI (j1)), .ref 16385] _ [] rfl trivial ?_
    refine AR.ald (n := 0) (e := j1) ok_X5_bring0_19 (by first | rfl | (simp only [nI_add, pk_mul]; first | done | rfl)) rfl (by omega) (by first | decide | omega) ?_
    refine AR.ast (n := 0) (e := j1) (h1 := (hp o0 a0 t0 p0 (mo (upd (cpK sa z j1) j1 (sa j1)) sa ro te fr to un ga pi be bm en sta sv ln th hh) u0 l0)) ok_X5_bring0_20 (by first | rfl | (simp only [nI_add, pk_mul]; first | done | rfl)) rfl rfl (by omega) (by decide) rfl ?_
    refine AR.run g_X5_bring0_21_2 2 [some (.ref 16384), some (.int ((nI (j1)) + (nI (1))))] [] _ [] rfl trivial ?_
    exact AR.cast (L' := [some (.ref 16384), some (.int (nI ((j1 + 1))))]) (by first | rfl | (simp only [nI_add])) rfl (by rw [cpK_s]) (ih2 trivial)
  · refine AR.run g_X5_bring0_2_2 6 [some (.ref 16384), some (.int (nI (1863)))] [.int (nI (1863)), .int (nI (1863))] _ [] rfl trivial ?_
    refine AR.ge2N (tgt := 27) dc_X5_bring0_6 (by decide) (by first | rfl | (simp only [nI_add, pk_mul]; first | done | rfl)) (by first | rfl | (simp only [nI_add, pk_mul]; first | done | rfl)) (by omega) (by omega) (fun c6_3 => ?_) (fun c6_3 => absurd c6_3 (by omega))
    exact AR.retV dc_X5_bring0_27 rfl rfl
end
section
theorem AR.tswN {E : AE} {M : AM} {d pc : Nat} {L : AL} {st : List Value} {h : AH} {o : AR0} {h' : AH} {mc ms : Nat} {dflt lo hi : Int} {offs : Array Int} {len : Nat} {x : Int32} {w : Nat} {off : Int} {tgt : Nat} (k : Nat) (hd : decode M.bytes pc = .ok (.tableswitch dflt lo hi offs, len)) (hx : x = nI w) (hw : w = k) (hk : k < 2147483648) (j : Nat) (hj1 : (k : Int) = lo + j) (hj : j < (hi + 1 - lo).toNat) (ho : offs[j]? = some off) (ht : (pc : Int) + off = (tgt : Int)) (kk : AR E M d tgt L st h o h' mc ms) : AR E M d pc L (.int x :: st) h o h' mc ms :=
  AR.tsw hd j (by rw [hx, hw, nI_toInt hk]; exact hj1) hj ho ht kk
theorem AR.tswdN {E : AE} {M : AM} {d pc : Nat} {L : AL} {st : List Value} {h : AH} {o : AR0} {h' : AH} {mc ms : Nat} {dflt lo hi : Int} {offs : Array Int} {len : Nat} {x : Int32} {w : Nat} {tgt : Nat} (hd : decode M.bytes pc = .ok (.tableswitch dflt lo hi offs, len)) (hx : x = nI w) (hw : w < 2147483648) (hb : (w : Int) < lo ∨ hi < (w : Int)) (ht : (pc : Int) + dflt = (tgt : Int)) (kk : AR E M d tgt L st h o h' mc ms) : AR E M d pc L (.int x :: st) h o h' mc ms :=
  AR.tswd hd (by rw [hx, nI_toInt hw]; exact hb) ht kk
/-- what the walks of the reference need of its cells -/
def ZI (z : Nat → Int32) (nv nc nr ne : Nat) : Prop := (z 0 = nI nv ∧ nv ≤ 12) ∧ (z 1 = nI nc ∧ nc ≤ 4) ∧ (z 2 = nI nr ∧ nr ≤ 3) ∧ (z 5 = nI ne ∧ ne ≤ 60) ∧ LV z nv
def F_5isOpen (v : Nat) (k : Nat) (z : Nat → Int32) : Int32 := if (z (423 + 3 * (40 * v + k) + 0)) = (nI (1)) then if (z 4) < (z (423 + 3 * (40 * v + k) + 2)) then (nI (0)) else (nI (1)) else (nI (0))
theorem F_5isOpen_01 (v : Nat) (k : Nat) (z : Nat → Int32) : F_5isOpen v k z = nI 0 ∨ F_5isOpen v k z = nI 1 := by
  unfold F_5isOpen
  (repeat' split) <;> first | exact Or.inl rfl | exact Or.inr rfl
theorem g_X5_isOpen_0_4 : ab_oks M_X5_isOpen [(0, .aload_n 0, 1, 0, 0, 0, .null), (1, .iload_n 1, 1, 1, 0, 0, .null), (2, .iload_n 2, 1, 2, 0, 0, .null), (3, .iconst 0, 1, 0, 0, 0, .int (nI (0)))] = true := by decide +kernel
theorem dc_X5_isOpen_4 : decode (AM.bytes M_X5_isOpen) 4 = .ok (.invokevirtual 65, 3) := by decide +kernel
theorem g_X5_isOpen_7_1 : ab_oks M_X5_isOpen [(7, .iconst 1, 1, 0, 0, 0, .int (nI (1)))] = true := by decide +kernel
theorem dc_X5_isOpen_8 : decode (AM.bytes M_X5_isOpen) 8 = .ok (.if_icmp .ne 23, 3) := by decide +kernel
theorem g_X5_isOpen_31_1 : ab_oks M_X5_isOpen [(31, .iconst 0, 1, 0, 0, 0, .int (nI (0)))] = true := by decide +kernel
theorem dc_X5_isOpen_32 : decode (AM.bytes M_X5_isOpen) 32 = .ok (.ireturn, 1) := by decide +kernel
theorem g_X5_isOpen_11_4 : ab_oks M_X5_isOpen [(11, .aload_n 0, 1, 0, 0, 0, .null), (12, .iload_n 1, 1, 1, 0, 0, .null), (13, .iload_n 2, 1, 2, 0, 0, .null), (14, .iconst 2, 1, 0, 0, 0, .int (nI (2)))] = true := by decide +kernel
theorem dc_X5_isOpen_15 : decode (AM.bytes M_X5_isOpen) 15 = .ok (.invokevirtual 65, 3) := by decide +kernel
theorem g_X5_isOpen_18_3 : ab_oks M_X5_isOpen [(18, .aload_n 0, 1, 0, 0, 0, .null), (19, .getfield 7, 3, 5, 0, 930, .null), (22, .iconst 4, 1, 0, 0, 0, .int (nI (4)))] = true := by decide +kernel
theorem ok_X5_isOpen_23 : ab_ok M_X5_isOpen (23, .iaload, 1, 0, 0, 0, .null) = true := by decide +kernel
theorem dc_X5_isOpen_24 : decode (AM.bytes M_X5_isOpen) 24 = .ok (.if_icmp .gt 7, 3) := by decide +kernel
theorem g_X5_isOpen_27_2 : ab_oks M_X5_isOpen [(27, .iconst 1, 1, 0, 0, 0, .int (nI (1))), (28, .goto 4, 3, 32, 0, 0, .null)] = true := by decide +kernel
set_option maxRecDepth 100000 in
set_option maxHeartbeats 4000000 in
theorem s_5isOpen {E : AE} (d : Nat) (v : Nat) (k : Nat)  {o0 a0 t0 p0 u0 l0 : List AC} {z sa ro te fr to un ga pi be : Nat → Int32} {bm en sta sv ln th : Int32} {hh : Int64} (hv : v < 12) (hk : k < 40) : CT E M_X5_isOpen (d + 1) [.ref 16384, .int (nI (v)), .int (nI (k))] (hp o0 a0 t0 p0 (mo z sa ro te fr to un ga pi be bm en sta sv ln th hh) u0 l0) (.inl (some (.int (F_5isOpen v k z)))) (hp o0 a0 t0 p0 (mo z sa ro te fr to un ga pi be bm en sta sv ln th hh) u0 l0) 0 0 := by
  refine CT.of (L := [some (.ref 16384), some (.int (nI (v))), some (.int (nI (k)))]) rfl rfl ?_
  refine AR.run g_X5_isOpen_0_4 4 [some (.ref 16384), some (.int (nI (v))), some (.int (nI (k)))] [.int (nI (0)), .int (nI (k)), .int (nI (v)), .ref 16384] _ [] rfl trivial ?_
  refine AR.callV1 (16384) [.int (nI (v)), .int (nI (k)), .int (nI (0))] [] lk_5_65 dc_X5_isOpen_4 rfl rfl (s_ofLeaf _ v k 0 (by omega) (by omega) (by omega)) (by first | rfl | (simp only [nI_add, pk_mul]; first | done | rfl)) rfl ?_
  refine AR.run g_X5_isOpen_7_1 8 [some (.ref 16384), some (.int (nI (v))), some (.int (nI (k)))] [.int (nI (1)), .int (z (423 + 3 * (40 * v + k) + 0))] _ [] rfl trivial ?_
  refine AR.ne2 (tgt := 31) dc_X5_isOpen_8 (by decide) (fun c8_1 => ?_) (fun c8_1 => ?_)
  · refine AR.run g_X5_isOpen_31_1 32 [some (.ref 16384), some (.int (nI (v))), some (.int (nI (k)))] [.int (nI (0))] _ [] rfl trivial ?_
    have e2_0 : F_5isOpen v k z = (nI (0)) := by rw [F_5isOpen, if_neg c8_1]
    exact AR.retZ dc_X5_isOpen_32 rfl (Or.inl rfl) e2_0.symm rfl
  · refine AR.run g_X5_isOpen_11_4 15 [some (.ref 16384), some (.int (nI (v))), some (.int (nI (k)))] [.int (nI (2)), .int (nI (k)), .int (nI (v)), .ref 16384] _ [] rfl trivial ?_
    refine AR.callV1 (16384) [.int (nI (v)), .int (nI (k)), .int (nI (2))] [] lk_5_65 dc_X5_isOpen_15 rfl rfl (s_ofLeaf _ v k 2 (by omega) (by omega) (by omega)) (by first | rfl | (simp only [nI_add, pk_mul]; first | done | rfl)) rfl ?_
    refine AR.run g_X5_isOpen_18_3 23 [some (.ref 16384), some (.int (nI (v))), some (.int (nI (k)))] [.int (nI (4)), .ref 16385, .int (z (423 + 3 * (40 * v + k) + 2))] _ [] rfl trivial ?_
    refine AR.ald (n := 0) (e := 4) ok_X5_isOpen_23 (by first | rfl | (simp only [nI_add, pk_mul]; first | done | rfl)) rfl (by omega) (by first | decide | omega) ?_
    refine AR.gt2 (tgt := 31) dc_X5_isOpen_24 (by decide) (fun c24_3 => ?_) (fun c24_3 => ?_)
    · refine AR.run g_X5_isOpen_31_1 32 [some (.ref 16384), some (.int (nI (v))), some (.int (nI (k)))] [.int (nI (0))] _ [] rfl trivial ?_
      have e4_0 : F_5isOpen v k z = (nI (0)) := by rw [F_5isOpen, if_pos c8_1, if_pos c24_3]
      exact AR.retZ dc_X5_isOpen_32 rfl (Or.inl rfl) e4_0.symm rfl
    · refine AR.run g_X5_isOpen_27_2 32 [some (.ref 16384), some (.int (nI (v))), some (.int (nI (k)))] [.int (nI (1))] _ [] rfl trivial ?_
      have e5_0 : F_5isOpen v k z = (nI (1)) := by rw [F_5isOpen, if_pos c8_1, if_neg c24_3]
      exact AR.retZ dc_X5_isOpen_32 rfl (Or.inr rfl) e5_0.symm rfl
def B_5open_4 (v : Nat) (z : Nat → Int32) (j4 : Nat) (x4_2 : Int32) : (Int32) := if (F_5isOpen v j4 z) = 0 then (x4_2 + (nI (0))) else (x4_2 + (nI (1)))
def L_5open_4 (v : Nat) (z : Nat → Int32) : Nat → (Int32)
  | 0 => nI (0)
  | j + 1 => B_5open_4 v z j (L_5open_4 v z  j)
theorem g_X5_open_0_4 : ab_oks M_X5_open [(0, .iconst 0, 1, 0, 0, 0, .int (nI (0))), (1, .istore_n 2, 1, 2, 0, 0, .null), (2, .iconst 0, 1, 0, 0, 0, .int (nI (0))), (3, .istore_n 3, 1, 3, 0, 0, .null)] = true := by decide +kernel
theorem g_X5_open_4_4 : ab_oks M_X5_open [(4, .iload_n 3, 1, 3, 0, 0, .null), (5, .aload_n 0, 1, 0, 0, 0, .null), (6, .iload_n 1, 1, 1, 0, 0, .null), (7, .iconst 2, 1, 0, 0, 0, .int (nI (2)))] = true := by decide +kernel
theorem dc_X5_open_8 : decode (AM.bytes M_X5_open) 8 = .ok (.invokevirtual 62, 3) := by decide +kernel
theorem dc_X5_open_11 : decode (AM.bytes M_X5_open) 11 = .ok (.if_icmp .ge 26, 3) := by decide +kernel
theorem g_X5_open_14_4 : ab_oks M_X5_open [(14, .iload_n 2, 1, 2, 0, 0, .null), (15, .aload_n 0, 1, 0, 0, 0, .null), (16, .iload_n 1, 1, 1, 0, 0, .null), (17, .iload_n 3, 1, 3, 0, 0, .null)] = true := by decide +kernel
theorem lk_5_152 : ab_lkV "LeafCradlesModel" 152 M_X5_isOpen 2 [1169, 1171, 63, 97, 1172] = true := by decide +kernel
theorem dc_X5_open_18 : decode (AM.bytes M_X5_open) 18 = .ok (.invokevirtual 152, 3) := by decide +kernel
theorem dc_X5_open_21 : decode (AM.bytes M_X5_open) 21 = .ok (.ifCond .eq 7, 3) := by decide +kernel
theorem g_X5_open_28_5 : ab_oks M_X5_open [(28, .iconst 0, 1, 0, 0, 0, .int (nI (0))), (29, .iadd, 1, 0, 0, 0, .null), (30, .istore_n 2, 1, 2, 0, 0, .null), (31, .iinc 3 1, 3, 3, 0, 0, .int (nI (1))), (34, .goto (-30), 3, 4, 0, 0, .null)] = true := by decide +kernel
theorem g_X5_open_24_6 : ab_oks M_X5_open [(24, .iconst 1, 1, 0, 0, 0, .int (nI (1))), (25, .goto 4, 3, 29, 0, 0, .null), (29, .iadd, 1, 0, 0, 0, .null), (30, .istore_n 2, 1, 2, 0, 0, .null), (31, .iinc 3 1, 3, 3, 0, 0, .int (nI (1))), (34, .goto (-30), 3, 4, 0, 0, .null)] = true := by decide +kernel
theorem g_X5_open_37_1 : ab_oks M_X5_open [(37, .iload_n 2, 1, 2, 0, 0, .null)] = true := by decide +kernel
theorem dc_X5_open_38 : decode (AM.bytes M_X5_open) 38 = .ok (.ireturn, 1) := by decide +kernel
set_option maxRecDepth 100000 in
set_option maxHeartbeats 4000000 in
theorem s_5open {E : AE} (d : Nat) (v : Nat)  {o0 a0 t0 p0 u0 l0 : List AC} {z sa ro te fr to un ga pi be : Nat → Int32} {bm en sta sv ln th : Int32} {hh : Int64} (hv : v < 12) (hl : z (11 + 7 * v + 2) = nI (lv z v)) (h40 : lv z v ≤ 40) : CT E M_X5_open (d + 2) [.ref 16384, .int (nI (v))] (hp o0 a0 t0 p0 (mo z sa ro te fr to un ga pi be bm en sta sv ln th hh) u0 l0) (.inl (some (.int (L_5open_4 v z (lv z v))))) (hp o0 a0 t0 p0 (mo z sa ro te fr to un ga pi be bm en sta sv ln th hh) u0 l0) 0 0 := by
  refine CT.of (L := [some (.ref 16384), some (.int (nI (v))), none, none]) rfl rfl ?_
  refine AR.run g_X5_open_0_4 4 [some (.ref 16384), some (.int (nI (v))), some (.int (nI (0))), some (.int (nI (0)))] [] _ [] rfl trivial ?_
  refine AR.cast (L' := [some (.ref 16384), some (.int (nI (v))), some (.int (L_5open_4 v z 0)), some (.int (nI (0)))]) (by first | rfl | (rw [L_5open_4])) rfl rfl (AR.loopN (lv z v) (fun j4 => [some (.ref 16384), some (.int (nI (v))), some (.int (L_5open_4 v z j4)), some (.int (nI (j4)))]) (fun j4 => (hp o0 a0 t0 p0 (mo z sa ro te fr to un ga pi be bm en sta sv ln th hh) u0 l0)) (fun j4 => True) (fun j4 hj4 hI4 ih4 => ?_) (fun hI4 => ?_) 0 (by omega) (by first | trivial | omega))
  · refine AR.run g_X5_open_4_4 8 [some (.ref 16384), some (.int (nI (v))), some (.int (L_5open_4 v z j4)), some (.int (nI (j4)))] [.int (nI (2)), .int (nI (v)), .ref 16384, .int (nI (j4))] _ [] rfl trivial ?_
    refine AR.callV1 (16384) [.int (nI (v)), .int (nI (2))] [.int (nI (j4))] lk_5_62 dc_X5_open_8 rfl rfl (s_ofVolume _ v 2 (by omega) (by omega)) (by first | rfl | (simp only [nI_add, pk_mul]; first | done | rfl)) rfl ?_
    refine AR.top hl ?_
    refine AR.ge2N (tgt := 37) (a := j4) (b := (lv z v)) dc_X5_open_11 (by decide) (by first | rfl | (simp only [nI_add, pk_mul]; first | done | rfl)) (by first | rfl | (simp only [nI_add, pk_mul]; first | done | rfl)) (by omega) (by omega) (fun c11_1 => absurd c11_1 (by omega)) (fun c11_1 => ?_)
    refine AR.run g_X5_open_14_4 18 [some (.ref 16384), some (.int (nI (v))), some (.int (L_5open_4 v z j4)), some (.int (nI (j4)))] [.int (nI (j4)), .int (nI (v)), .ref 16384, .int (L_5open_4 v z j4)] _ [] rfl trivial ?_
    refine AR.callV1 (16384) [.int (nI (v)), .int (nI (j4))] [.int (L_5open_4 v z j4)] lk_5_152 dc_X5_open_18 rfl rfl (s_5isOpen _ v j4 (by omega) (by omega)) (by first | rfl | (simp only [nI_add, pk_mul]; first | done | rfl)) rfl ?_
    refine AR.eq (tgt := 28) dc_X5_open_21 (by decide) (fun c21_2 => ?_) (fun c21_2 => ?_)
    · refine AR.run g_X5_open_28_5 4 [some (.ref 16384), some (.int (nI (v))), some (.int ((L_5open_4 v z j4) + (nI (0)))), some (.int ((nI (j4)) + (nI (1))))] [] _ [] rfl trivial ?_
      have e3 : L_5open_4 v z (j4 + 1) = ((L_5open_4 v z j4) + (nI (0))) := by rw [L_5open_4, B_5open_4, if_pos c21_2]
      exact AR.cast (L' := [some (.ref 16384), some (.int (nI (v))), some (.int (L_5open_4 v z (j4 + 1))), some (.int (nI (j4 + 1)))]) (by rw [e3, nI_add]) rfl rfl (ih4 (by first | trivial | omega))
    · refine AR.run g_X5_open_24_6 4 [some (.ref 16384), some (.int (nI (v))), some (.int ((L_5open_4 v z j4) + (nI (1)))), some (.int ((nI (j4)) + (nI (1))))] [] _ [] rfl trivial ?_
      have e4 : L_5open_4 v z (j4 + 1) = ((L_5open_4 v z j4) + (nI (1))) := by rw [L_5open_4, B_5open_4, if_neg c21_2]
      exact AR.cast (L' := [some (.ref 16384), some (.int (nI (v))), some (.int (L_5open_4 v z (j4 + 1))), some (.int (nI (j4 + 1)))]) (by rw [e4, nI_add]) rfl rfl (ih4 (by first | trivial | omega))
  · refine AR.run g_X5_open_4_4 8 [some (.ref 16384), some (.int (nI (v))), some (.int (L_5open_4 v z (lv z v))), some (.int (nI (lv z v)))] [.int (nI (2)), .int (nI (v)), .ref 16384, .int (nI (lv z v))] _ [] rfl trivial ?_
    refine AR.callV1 (16384) [.int (nI (v)), .int (nI (2))] [.int (nI (lv z v))] lk_5_62 dc_X5_open_8 rfl rfl (s_ofVolume _ v 2 (by omega) (by omega)) (by first | rfl | (simp only [nI_add, pk_mul]; first | done | rfl)) rfl ?_
    refine AR.top hl ?_
    refine AR.ge2N (tgt := 37) (a := lv z v) (b := (lv z v)) dc_X5_open_11 (by decide) (by first | rfl | (simp only [nI_add, pk_mul]; first | done | rfl)) (by first | rfl | (simp only [nI_add, pk_mul]; first | done | rfl)) (by omega) (by omega) (fun c11_5 => ?_) (fun c11_5 => absurd c11_5 (by omega))
    refine AR.run g_X5_open_37_1 38 [some (.ref 16384), some (.int (nI (v))), some (.int (L_5open_4 v z (lv z v))), some (.int (nI (lv z v)))] [.int (L_5open_4 v z (lv z v))] _ [] rfl trivial ?_
    exact AR.retI dc_X5_open_38 rfl rfl rfl
def B_5leavesWith_5 (v : Nat) (how : Int32) (z : Nat → Int32) (j5 : Nat) (x5_3 : Int32) : (Int32) := if (z (423 + 3 * (40 * v + j5) + 0)) = how then (x5_3 + (nI (1))) else (x5_3 + (nI (0)))
def L_5leavesWith_5 (v : Nat) (how : Int32) (z : Nat → Int32) : Nat → (Int32)
  | 0 => nI (0)
  | j + 1 => B_5leavesWith_5 v how z j (L_5leavesWith_5 v how z  j)
set_option maxRecDepth 100000 in
set_option maxHeartbeats 4000000 in
theorem s_5leavesWith {E : AE} (d : Nat) (v : Nat) (how : Int32)  {o0 a0 t0 p0 u0 l0 : List AC} {z sa ro te fr to un ga pi be : Nat → Int32} {bm en sta sv ln th : Int32} {hh : Int64} (hv : v < 12) (hl : z (11 + 7 * v + 2) = nI (lv z v)) (h40 : lv z v ≤ 40) : CT E M_X5_leavesWith (d + 1) [.ref 16384, .int (nI (v)), .int (how)] (hp o0 a0 t0 p0 (mo z sa ro te fr to un ga pi be bm en sta sv ln th hh) u0 l0) (.inl (some (.int (L_5leavesWith_5 v how z (lv z v))))) (hp o0 a0 t0 p0 (mo z sa ro te fr to un ga pi be bm en sta sv ln th hh) u0 l0) 0 0 := by
  refine CT.of (L := [some (.ref 16384), some (.int (nI (v))), some (.int (how)), none, none]) rfl rfl ?_
  refine AR.run g_X5_leavesWith_0_4 5 [some (.ref 16384), some (.int (nI (v))), some (.int (how)), some (.int (nI (0))), some (.int (nI (0)))] [] _ [] rfl trivial ?_
  refine AR.cast (L' := [some (.ref 16384), some (.int (nI (v))), some (.int (how)), some (.int (L_5leavesWith_5 v how z 0)), some (.int (nI (0)))]) (by first | rfl | (rw [L_5leavesWith_5])) rfl rfl (AR.loopN (lv z v) (fun j5 => [some (.ref 16384), some (.int (nI (v))), some (.int (how)), some (.int (L_5leavesWith_5 v how z j5)), some (.int (nI (j5)))]) (fun j5 => (hp o0 a0 t0 p0 (mo z sa ro te fr to un ga pi be bm en sta sv ln th hh) u0 l0)) (fun j5 => True) (fun j5 hj5 hI5 ih5 => ?_) (fun hI5 => ?_) 0 (by omega) (by first | trivial | omega))
  · refine AR.run g_X5_leavesWith_5_4 10 [some (.ref 16384), some (.int (nI (v))), some (.int (how)), some (.int (L_5leavesWith_5 v how z j5)), some (.int (nI (j5)))] [.int (nI (2)), .int (nI (v)), .ref 16384, .int (nI (j5))] _ [] rfl trivial ?_
    refine AR.callV1 (16384) [.int (nI (v)), .int (nI (2))] [.int (nI (j5))] lk_5_62 dc_X5_leavesWith_10 rfl rfl (s_ofVolume _ v 2 (by omega) (by omega)) (by first | rfl | (simp only [nI_add, pk_mul]; first | done | rfl)) rfl ?_
    refine AR.top hl ?_
    refine AR.ge2N (tgt := 42) (a := j5) (b := (lv z v)) dc_X5_leavesWith_13 (by decide) (by first | rfl | (simp only [nI_add, pk_mul]; first | done | rfl)) (by first | rfl | (simp only [nI_add, pk_mul]; first | done | rfl)) (by omega) (by omega) (fun c13_1 => absurd c13_1 (by omega)) (fun c13_1 => ?_)
    refine AR.run g_X5_leavesWith_16_5 22 [some (.ref 16384), some (.int (nI (v))), some (.int (how)), some (.int (L_5leavesWith_5 v how z j5)), some (.int (nI (j5)))] [.int (nI (0)), .int (nI (j5)), .int (nI (v)), .ref 16384, .int (L_5leavesWith_5 v how z j5)] _ [] rfl trivial ?_
    refine AR.callV1 (16384) [.int (nI (v)), .int (nI (j5)), .int (nI (0))] [.int (L_5leavesWith_5 v how z j5)] lk_5_65 dc_X5_leavesWith_22 rfl rfl (s_ofLeaf _ v j5 0 (by omega) (by omega) (by omega)) (by first | rfl | (simp only [nI_add, pk_mul]; first | done | rfl)) rfl ?_
    refine AR.run g_X5_leavesWith_25_1 26 [some (.ref 16384), some (.int (nI (v))), some (.int (how)), some (.int (L_5leavesWith_5 v how z j5)), some (.int (nI (j5)))] [.int (how), .int (z (423 + 3 * (40 * v + j5) + 0)), .int (L_5leavesWith_5 v how z j5)] _ [] rfl trivial ?_
    refine AR.ne2 (tgt := 33) dc_X5_leavesWith_26 (by decide) (fun c26_2 => ?_) (fun c26_2 => ?_)
    · refine AR.run g_X5_leavesWith_33_5 5 [some (.ref 16384), some (.int (nI (v))), some (.int (how)), some (.int ((L_5leavesWith_5 v how z j5) + (nI (0)))), some (.int ((nI (j5)) + (nI (1))))] [] _ [] rfl trivial ?_
      have e3 : L_5leavesWith_5 v how z (j5 + 1) = ((L_5leavesWith_5 v how z j5) + (nI (0))) := by rw [L_5leavesWith_5, B_5leavesWith_5, if_neg c26_2]
      exact AR.cast (L' := [some (.ref 16384), some (.int (nI (v))), some (.int (how)), some (.int (L_5leavesWith_5 v how z (j5 + 1))), some (.int (nI (j5 + 1)))]) (by rw [e3, nI_add]) rfl rfl (ih5 (by first | trivial | omega))
    · refine AR.run g_X5_leavesWith_29_6 5 [some (.ref 16384), some (.int (nI (v))), some (.int (how)), some (.int ((L_5leavesWith_5 v how z j5) + (nI (1)))), some (.int ((nI (j5)) + (nI (1))))] [] _ [] rfl trivial ?_
      have e4 : L_5leavesWith_5 v how z (j5 + 1) = ((L_5leavesWith_5 v how z j5) + (nI (1))) := by rw [L_5leavesWith_5, B_5leavesWith_5, if_pos c26_2]
      exact AR.cast (L' := [some (.ref 16384), some (.int (nI (v))), some (.int (how)), some (.int (L_5leavesWith_5 v how z (j5 + 1))), some (.int (nI (j5 + 1)))]) (by rw [e4, nI_add]) rfl rfl (ih5 (by first | trivial | omega))
  · refine AR.run g_X5_leavesWith_5_4 10 [some (.ref 16384), some (.int (nI (v))), some (.int (how)), some (.int (L_5leavesWith_5 v how z (lv z v))), some (.int (nI (lv z v)))] [.int (nI (2)), .int (nI (v)), .ref 16384, .int (nI (lv z v))] _ [] rfl trivial ?_
    refine AR.callV1 (16384) [.int (nI (v)), .int (nI (2))] [.int (nI (lv z v))] lk_5_62 dc_X5_leavesWith_10 rfl rfl (s_ofVolume _ v 2 (by omega) (by omega)) (by first | rfl | (simp only [nI_add, pk_mul]; first | done | rfl)) rfl ?_
    refine AR.top hl ?_
    refine AR.ge2N (tgt := 42) (a := lv z v) (b := (lv z v)) dc_X5_leavesWith_13 (by decide) (by first | rfl | (simp only [nI_add, pk_mul]; first | done | rfl)) (by first | rfl | (simp only [nI_add, pk_mul]; first | done | rfl)) (by omega) (by omega) (fun c13_5 => ?_) (fun c13_5 => absurd c13_5 (by omega))
    refine AR.run g_X5_leavesWith_42_1 43 [some (.ref 16384), some (.int (nI (v))), some (.int (how)), some (.int (L_5leavesWith_5 v how z (lv z v))), some (.int (nI (lv z v)))] [.int (L_5leavesWith_5 v how z (lv z v))] _ [] rfl trivial ?_
    exact AR.retI dc_X5_leavesWith_43 rfl rfl rfl
def B_5scanned_4 (v : Nat) (z : Nat → Int32) (j4 : Nat) (x4_2 : Int32) : (Int32) := (x4_2 + (z (423 + 3 * (40 * v + j4) + 1)))
def L_5scanned_4 (v : Nat) (z : Nat → Int32) : Nat → (Int32)
  | 0 => nI (0)
  | j + 1 => B_5scanned_4 v z j (L_5scanned_4 v z  j)
theorem g_X5_scanned_0_4 : ab_oks M_X5_scanned [(0, .iconst 0, 1, 0, 0, 0, .int (nI (0))), (1, .istore_n 2, 1, 2, 0, 0, .null), (2, .iconst 0, 1, 0, 0, 0, .int (nI (0))), (3, .istore_n 3, 1, 3, 0, 0, .null)] = true := by decide +kernel
theorem g_X5_scanned_4_4 : ab_oks M_X5_scanned [(4, .iload_n 3, 1, 3, 0, 0, .null), (5, .aload_n 0, 1, 0, 0, 0, .null), (6, .iload_n 1, 1, 1, 0, 0, .null), (7, .iconst 2, 1, 0, 0, 0, .int (nI (2)))] = true := by decide +kernel
theorem dc_X5_scanned_8 : decode (AM.bytes M_X5_scanned) 8 = .ok (.invokevirtual 62, 3) := by decide +kernel
theorem dc_X5_scanned_11 : decode (AM.bytes M_X5_scanned) 11 = .ok (.if_icmp .ge 19, 3) := by decide +kernel
theorem g_X5_scanned_14_5 : ab_oks M_X5_scanned [(14, .iload_n 2, 1, 2, 0, 0, .null), (15, .aload_n 0, 1, 0, 0, 0, .null), (16, .iload_n 1, 1, 1, 0, 0, .null), (17, .iload_n 3, 1, 3, 0, 0, .null), (18, .iconst 1, 1, 0, 0, 0, .int (nI (1)))] = true := by decide +kernel
theorem dc_X5_scanned_19 : decode (AM.bytes M_X5_scanned) 19 = .ok (.invokevirtual 65, 3) := by decide +kernel
theorem g_X5_scanned_22_4 : ab_oks M_X5_scanned [(22, .iadd, 1, 0, 0, 0, .null), (23, .istore_n 2, 1, 2, 0, 0, .null), (24, .iinc 3 1, 3, 3, 0, 0, .int (nI (1))), (27, .goto (-23), 3, 4, 0, 0, .null)] = true := by decide +kernel
theorem g_X5_scanned_30_1 : ab_oks M_X5_scanned [(30, .iload_n 2, 1, 2, 0, 0, .null)] = true := by decide +kernel
theorem dc_X5_scanned_31 : decode (AM.bytes M_X5_scanned) 31 = .ok (.ireturn, 1) := by decide +kernel
set_option maxRecDepth 100000 in
set_option maxHeartbeats 4000000 in
theorem s_5scanned {E : AE} (d : Nat) (v : Nat)  {o0 a0 t0 p0 u0 l0 : List AC} {z sa ro te fr to un ga pi be : Nat → Int32} {bm en sta sv ln th : Int32} {hh : Int64} (hv : v < 12) (hl : z (11 + 7 * v + 2) = nI (lv z v)) (h40 : lv z v ≤ 40) : CT E M_X5_scanned (d + 1) [.ref 16384, .int (nI (v))] (hp o0 a0 t0 p0 (mo z sa ro te fr to un ga pi be bm en sta sv ln th hh) u0 l0) (.inl (some (.int (L_5scanned_4 v z (lv z v))))) (hp o0 a0 t0 p0 (mo z sa ro te fr to un ga pi be bm en sta sv ln th hh) u0 l0) 0 0 := by
  refine CT.of (L := [some (.ref 16384), some (.int (nI (v))), none, none]) rfl rfl ?_
  refine AR.run g_X5_scanned_0_4 4 [some (.ref 16384), some (.int (nI (v))), some (.int (nI (0))), some (.int (nI (0)))] [] _ [] rfl trivial ?_
  refine AR.cast (L' := [some (.ref 16384), some (.int (nI (v))), some (.int (L_5scanned_4 v z 0)), some (.int (nI (0)))]) (by first | rfl | (rw [L_5scanned_4])) rfl rfl (AR.loopN (lv z v) (fun j4 => [some (.ref 16384), some (.int (nI (v))), some (.int (L_5scanned_4 v z j4)), some (.int (nI (j4)))]) (fun j4 => (hp o0 a0 t0 p0 (mo z sa ro te fr to un ga pi be bm en sta sv ln th hh) u0 l0)) (fun j4 => True) (fun j4 hj4 hI4 ih4 => ?_) (fun hI4 => ?_) 0 (by omega) (by first | trivial | omega))
  · refine AR.run g_X5_scanned_4_4 8 [some (.ref 16384), some (.int (nI (v))), some (.int (L_5scanned_4 v z j4)), some (.int (nI (j4)))] [.int (nI (2)), .int (nI (v)), .ref 16384, .int (nI (j4))] _ [] rfl trivial ?_
    refine AR.callV1 (16384) [.int (nI (v)), .int (nI (2))] [.int (nI (j4))] lk_5_62 dc_X5_scanned_8 rfl rfl (s_ofVolume _ v 2 (by omega) (by omega)) (by first | rfl | (simp only [nI_add, pk_mul]; first | done | rfl)) rfl ?_
    refine AR.top hl ?_
    refine AR.ge2N (tgt := 30) (a := j4) (b := (lv z v)) dc_X5_scanned_11 (by decide) (by first | rfl | (simp only [nI_add, pk_mul]; first | done | rfl)) (by first | rfl | (simp only [nI_add, pk_mul]; first | done | rfl)) (by omega) (by omega) (fun c11_1 => absurd c11_1 (by omega)) (fun c11_1 => ?_)
    refine AR.run g_X5_scanned_14_5 19 [some (.ref 16384), some (.int (nI (v))), some (.int (L_5scanned_4 v z j4)), some (.int (nI (j4)))] [.int (nI (1)), .int (nI (j4)), .int (nI (v)), .ref 16384, .int (L_5scanned_4 v z j4)] _ [] rfl trivial ?_
    refine AR.callV1 (16384) [.int (nI (v)), .int (nI (j4)), .int (nI (1))] [.int (L_5scanned_4 v z j4)] lk_5_65 dc_X5_scanned_19 rfl rfl (s_ofLeaf _ v j4 1 (by omega) (by omega) (by omega)) (by first | rfl | (simp only [nI_add, pk_mul]; first | done | rfl)) rfl ?_
    refine AR.run g_X5_scanned_22_4 4 [some (.ref 16384), some (.int (nI (v))), some (.int ((L_5scanned_4 v z j4) + (z (423 + 3 * (40 * v + j4) + 1)))), some (.int ((nI (j4)) + (nI (1))))] [] _ [] rfl trivial ?_
    have e2 : L_5scanned_4 v z (j4 + 1) = ((L_5scanned_4 v z j4) + (z (423 + 3 * (40 * v + j4) + 1))) := by rw [L_5scanned_4, B_5scanned_4]
    exact AR.cast (L' := [some (.ref 16384), some (.int (nI (v))), some (.int (L_5scanned_4 v z (j4 + 1))), some (.int (nI (j4 + 1)))]) (by rw [e2, nI_add]) rfl rfl (ih4 (by first | trivial | omega))
  · refine AR.run g_X5_scanned_4_4 8 [some (.ref 16384), some (.int (nI (v))), some (.int (L_5scanned_4 v z (lv z v))), some (.int (nI (lv z v)))] [.int (nI (2)), .int (nI (v)), .ref 16384, .int (nI (lv z v))] _ [] rfl trivial ?_
    refine AR.callV1 (16384) [.int (nI (v)), .int (nI (2))] [.int (nI (lv z v))] lk_5_62 dc_X5_scanned_8 rfl rfl (s_ofVolume _ v 2 (by omega) (by omega)) (by first | rfl | (simp only [nI_add, pk_mul]; first | done | rfl)) rfl ?_
    refine AR.top hl ?_
    refine AR.ge2N (tgt := 30) (a := lv z v) (b := (lv z v)) dc_X5_scanned_11 (by decide) (by first | rfl | (simp only [nI_add, pk_mul]; first | done | rfl)) (by first | rfl | (simp only [nI_add, pk_mul]; first | done | rfl)) (by omega) (by omega) (fun c11_3 => ?_) (fun c11_3 => absurd c11_3 (by omega))
    refine AR.run g_X5_scanned_30_1 31 [some (.ref 16384), some (.int (nI (v))), some (.int (L_5scanned_4 v z (lv z v))), some (.int (nI (lv z v)))] [.int (L_5scanned_4 v z (lv z v))] _ [] rfl trivial ?_
    exact AR.retI dc_X5_scanned_31 rfl rfl rfl
def B_5barred_4 (v : Nat) (z : Nat → Int32) (j4 : Nat) (x4_2 : Int32) : (Int32) := if (z (423 + 3 * (40 * v + j4) + 2)) = 0 then (x4_2 + (nI (0))) else (x4_2 + (nI (1)))
def L_5barred_4 (v : Nat) (z : Nat → Int32) : Nat → (Int32)
  | 0 => nI (0)
  | j + 1 => B_5barred_4 v z j (L_5barred_4 v z  j)
theorem g_X5_barred_0_4 : ab_oks M_X5_barred [(0, .iconst 0, 1, 0, 0, 0, .int (nI (0))), (1, .istore_n 2, 1, 2, 0, 0, .null), (2, .iconst 0, 1, 0, 0, 0, .int (nI (0))), (3, .istore_n 3, 1, 3, 0, 0, .null)] = true := by decide +kernel
theorem g_X5_barred_4_4 : ab_oks M_X5_barred [(4, .iload_n 3, 1, 3, 0, 0, .null), (5, .aload_n 0, 1, 0, 0, 0, .null), (6, .iload_n 1, 1, 1, 0, 0, .null), (7, .iconst 2, 1, 0, 0, 0, .int (nI (2)))] = true := by decide +kernel
theorem dc_X5_barred_8 : decode (AM.bytes M_X5_barred) 8 = .ok (.invokevirtual 62, 3) := by decide +kernel
theorem dc_X5_barred_11 : decode (AM.bytes M_X5_barred) 11 = .ok (.if_icmp .ge 27, 3) := by decide +kernel
theorem g_X5_barred_14_5 : ab_oks M_X5_barred [(14, .iload_n 2, 1, 2, 0, 0, .null), (15, .aload_n 0, 1, 0, 0, 0, .null), (16, .iload_n 1, 1, 1, 0, 0, .null), (17, .iload_n 3, 1, 3, 0, 0, .null), (18, .iconst 2, 1, 0, 0, 0, .int (nI (2)))] = true := by decide +kernel
theorem dc_X5_barred_19 : decode (AM.bytes M_X5_barred) 19 = .ok (.invokevirtual 65, 3) := by decide +kernel
theorem dc_X5_barred_22 : decode (AM.bytes M_X5_barred) 22 = .ok (.ifCond .ne 7, 3) := by decide +kernel
theorem g_X5_barred_29_5 : ab_oks M_X5_barred [(29, .iconst 1, 1, 0, 0, 0, .int (nI (1))), (30, .iadd, 1, 0, 0, 0, .null), (31, .istore_n 2, 1, 2, 0, 0, .null), (32, .iinc 3 1, 3, 3, 0, 0, .int (nI (1))), (35, .goto (-31), 3, 4, 0, 0, .null)] = true := by decide +kernel
theorem g_X5_barred_25_6 : ab_oks M_X5_barred [(25, .iconst 0, 1, 0, 0, 0, .int (nI (0))), (26, .goto 4, 3, 30, 0, 0, .null), (30, .iadd, 1, 0, 0, 0, .null), (31, .istore_n 2, 1, 2, 0, 0, .null), (32, .iinc 3 1, 3, 3, 0, 0, .int (nI (1))), (35, .goto (-31), 3, 4, 0, 0, .null)] = true := by decide +kernel
theorem g_X5_barred_38_1 : ab_oks M_X5_barred [(38, .iload_n 2, 1, 2, 0, 0, .null)] = true := by decide +kernel
theorem dc_X5_barred_39 : decode (AM.bytes M_X5_barred) 39 = .ok (.ireturn, 1) := by decide +kernel
set_option maxRecDepth 100000 in
set_option maxHeartbeats 4000000 in
theorem s_5barred {E : AE} (d : Nat) (v : Nat)  {o0 a0 t0 p0 u0 l0 : List AC} {z sa ro te fr to un ga pi be : Nat → Int32} {bm en sta sv ln th : Int32} {hh : Int64} (hv : v < 12) (hl : z (11 + 7 * v + 2) = nI (lv z v)) (h40 : lv z v ≤ 40) : CT E M_X5_barred (d + 1) [.ref 16384, .int (nI (v))] (hp o0 a0 t0 p0 (mo z sa ro te fr to un ga pi be bm en sta sv ln th hh) u0 l0) (.inl (some (.int (L_5barred_4 v z (lv z v))))) (hp o0 a0 t0 p0 (mo z sa ro te fr to un ga pi be bm en sta sv ln th hh) u0 l0) 0 0 := by
  refine CT.of (L := [some (.ref 16384), some (.int (nI (v))), none, none]) rfl rfl ?_
  refine AR.run g_X5_barred_0_4 4 [some (.ref 16384), some (.int (nI (v))), some (.int (nI (0))), some (.int (nI (0)))] [] _ [] rfl trivial ?_
  refine AR.cast (L' := [some (.ref 16384), some (.int (nI (v))), some (.int (L_5barred_4 v z 0)), some (.int (nI (0)))]) (by first | rfl | (rw [L_5barred_4])) rfl rfl (AR.loopN (lv z v) (fun j4 => [some (.ref 16384), some (.int (nI (v))), some (.int (L_5barred_4 v z j4)), some (.int (nI (j4)))]) (fun j4 => (hp o0 a0 t0 p0 (mo z sa ro te fr to un ga pi be bm en sta sv ln th hh) u0 l0)) (fun j4 => True) (fun j4 hj4 hI4 ih4 => ?_) (fun hI4 => ?_) 0 (by omega) (by first | trivial | omega))
  · refine AR.run g_X5_barred_4_4 8 [some (.ref 16384), some (.int (nI (v))), some (.int (L_5barred_4 v z j4)), some (.int (nI (j4)))] [.int (nI (2)), .int (nI (v)), .ref 16384, .int (nI (j4))] _ [] rfl trivial ?_
    refine AR.callV1 (16384) [.int (nI (v)), .int (nI (2))] [.int (nI (j4))] lk_5_62 dc_X5_barred_8 rfl rfl (s_ofVolume _ v 2 (by omega) (by omega)) (by first | rfl | (simp only [nI_add, pk_mul]; first | done | rfl)) rfl ?_
    refine AR.top hl ?_
    refine AR.ge2N (tgt := 38) (a := j4) (b := (lv z v)) dc_X5_barred_11 (by decide) (by first | rfl | (simp only [nI_add, pk_mul]; first | done | rfl)) (by first | rfl | (simp only [nI_add, pk_mul]; first | done | rfl)) (by omega) (by omega) (fun c11_1 => absurd c11_1 (by omega)) (fun c11_1 => ?_)
    refine AR.run g_X5_barred_14_5 19 [some (.ref 16384), some (.int (nI (v))), some (.int (L_5barred_4 v z j4)), some (.int (nI (j4)))] [.int (nI (2)), .int (nI (j4)), .int (nI (v)), .ref 16384, .int (L_5barred_4 v z j4)] _ [] rfl trivial ?_
    refine AR.callV1 (16384) [.int (nI (v)), .int (nI (j4)), .int (nI (2))] [.int (L_5barred_4 v z j4)] lk_5_65 dc_X5_barred_19 rfl rfl (s_ofLeaf _ v j4 2 (by omega) (by omega) (by omega)) (by first | rfl | (simp only [nI_add, pk_mul]; first | done | rfl)) rfl ?_
    refine AR.ne (tgt := 29) dc_X5_barred_22 (by decide) (fun c22_2 => ?_) (fun c22_2 => ?_)
    · refine AR.run g_X5_barred_29_5 4 [some (.ref 16384), some (.int (nI (v))), some (.int ((L_5barred_4 v z j4) + (nI (1)))), some (.int ((nI (j4)) + (nI (1))))] [] _ [] rfl trivial ?_
      have e3 : L_5barred_4 v z (j4 + 1) = ((L_5barred_4 v z j4) + (nI (1))) := by rw [L_5barred_4, B_5barred_4, if_neg c22_2]
      exact AR.cast (L' := [some (.ref 16384), some (.int (nI (v))), some (.int (L_5barred_4 v z (j4 + 1))), some (.int (nI (j4 + 1)))]) (by rw [e3, nI_add]) rfl rfl (ih4 (by first | trivial | omega))
    · refine AR.run g_X5_barred_25_6 4 [some (.ref 16384), some (.int (nI (v))), some (.int ((L_5barred_4 v z j4) + (nI (0)))), some (.int ((nI (j4)) + (nI (1))))] [] _ [] rfl trivial ?_
      have e4 : L_5barred_4 v z (j4 + 1) = ((L_5barred_4 v z j4) + (nI (0))) := by rw [L_5barred_4, B_5barred_4, if_pos c22_2]
      exact AR.cast (L' := [some (.ref 16384), some (.int (nI (v))), some (.int (L_5barred_4 v z (j4 + 1))), some (.int (nI (j4 + 1)))]) (by rw [e4, nI_add]) rfl rfl (ih4 (by first | trivial | omega))
  · refine AR.run g_X5_barred_4_4 8 [some (.ref 16384), some (.int (nI (v))), some (.int (L_5barred_4 v z (lv z v))), some (.int (nI (lv z v)))] [.int (nI (2)), .int (nI (v)), .ref 16384, .int (nI (lv z v))] _ [] rfl trivial ?_
    refine AR.callV1 (16384) [.int (nI (v)), .int (nI (2))] [.int (nI (lv z v))] lk_5_62 dc_X5_barred_8 rfl rfl (s_ofVolume _ v 2 (by omega) (by omega)) (by first | rfl | (simp only [nI_add, pk_mul]; first | done | rfl)) rfl ?_
    refine AR.top hl ?_
    refine AR.ge2N (tgt := 38) (a := lv z v) (b := (lv z v)) dc_X5_barred_11 (by decide) (by first | rfl | (simp only [nI_add, pk_mul]; first | done | rfl)) (by first | rfl | (simp only [nI_add, pk_mul]; first | done | rfl)) (by omega) (by omega) (fun c11_5 => ?_) (fun c11_5 => absurd c11_5 (by omega))
    refine AR.run g_X5_barred_38_1 39 [some (.ref 16384), some (.int (nI (v))), some (.int (L_5barred_4 v z (lv z v))), some (.int (nI (lv z v)))] [.int (L_5barred_4 v z (lv z v))] _ [] rfl trivial ?_
    exact AR.retI dc_X5_barred_39 rfl rfl rfl
theorem g_X5_toScan_0_3 : ab_oks M_X5_toScan [(0, .aload_n 0, 1, 0, 0, 0, .null), (1, .iload_n 1, 1, 1, 0, 0, .null), (2, .iconst 2, 1, 0, 0, 0, .int (nI (2)))] = true := by decide +kernel
theorem dc_X5_toScan_3 : decode (AM.bytes M_X5_toScan) 3 = .ok (.invokevirtual 62, 3) := by decide +kernel
theorem g_X5_toScan_6_3 : ab_oks M_X5_toScan [(6, .aload_n 0, 1, 0, 0, 0, .null), (7, .iload_n 1, 1, 1, 0, 0, .null), (8, .iconst 1, 1, 0, 0, 0, .int (nI (1)))] = true := by decide +kernel
theorem lk_5_115 : ab_lkV "LeafCradlesModel" 115 M_X5_leavesWith 2 [1101, 1103, 52, 97, 1104] = true := by decide +kernel
theorem dc_X5_toScan_9 : decode (AM.bytes M_X5_toScan) 9 = .ok (.invokevirtual 115, 3) := by decide +kernel
theorem g_X5_toScan_12_1 : ab_oks M_X5_toScan [(12, .isub, 1, 0, 0, 0, .null)] = true := by decide +kernel
theorem dc_X5_toScan_13 : decode (AM.bytes M_X5_toScan) 13 = .ok (.ireturn, 1) := by decide +kernel
set_option maxRecDepth 100000 in
set_option maxHeartbeats 4000000 in
theorem s_5toScan {E : AE} (d : Nat) (v : Nat)  {o0 a0 t0 p0 u0 l0 : List AC} {z sa ro te fr to un ga pi be : Nat → Int32} {bm en sta sv ln th : Int32} {hh : Int64} (hv : v < 12) (hl : z (11 + 7 * v + 2) = nI (lv z v)) (h40 : lv z v ≤ 40) : CT E M_X5_toScan (d + 2) [.ref 16384, .int (nI (v))] (hp o0 a0 t0 p0 (mo z sa ro te fr to un ga pi be bm en sta sv ln th hh) u0 l0) (.inl (some (.int ((nI ((lv z v))) - (L_5leavesWith_5 v (nI (1)) z (lv z v)))))) (hp o0 a0 t0 p0 (mo z sa ro te fr to un ga pi be bm en sta sv ln th hh) u0 l0) 0 0 := by
  refine CT.of (L := [some (.ref 16384), some (.int (nI (v)))]) rfl rfl ?_
  refine AR.run g_X5_toScan_0_3 3 [some (.ref 16384), some (.int (nI (v)))] [.int (nI (2)), .int (nI (v)), .ref 16384] _ [] rfl trivial ?_
  refine AR.callV1 (16384) [.int (nI (v)), .int (nI (2))] [] lk_5_62 dc_X5_toScan_3 rfl rfl (s_ofVolume _ v 2 (by omega) (by omega)) (by first | rfl | (simp only [nI_add, pk_mul]; first | done | rfl)) rfl ?_
  refine AR.top hl ?_
  refine AR.run g_X5_toScan_6_3 9 [some (.ref 16384), some (.int (nI (v)))] [.int (nI (1)), .int (nI (v)), .ref 16384, .int (nI ((lv z v)))] _ [] rfl trivial ?_
  refine AR.callV1 (16384) [.int (nI (v)), .int (nI (1))] [.int (nI ((lv z v)))] lk_5_115 dc_X5_toScan_9 rfl rfl (s_5leavesWith _ v (nI (1)) (by omega) (by first | assumption | exact (hLV v (by omega)).1) (by first | assumption | exact (hLV v (by omega)).2)) (by first | rfl | (simp only [nI_add, pk_mul]; first | done | rfl)) rfl ?_
  refine AR.run g_X5_toScan_12_1 13 [some (.ref 16384), some (.int (nI (v)))] [.int ((nI ((lv z v))) - (L_5leavesWith_5 v (nI (1)) z (lv z v)))] _ [] rfl trivial ?_
  exact AR.retI dc_X5_toScan_13 rfl rfl rfl
def F_5volumeNow (v : Nat) (w : Nat) (z : Nat → Int32) : Int32 := if w = 5 then ((z (11 + 7 * v + 5)) - (nI (1))) else if w = 6 then (z (11 + 7 * v + w)) else if w = 7 then (L_5leavesWith_5 v (nI (1)) z (lv z v)) else if w = 8 then (L_5leavesWith_5 v (nI (2)) z (lv z v)) else if w = 9 then (L_5open_4 v z (lv z v)) else if w = 10 then (oI (nlO z v (lv z v))) else if w = 11 then (L_5scanned_4 v z (lv z v)) else (z (11 + 7 * v + w))
theorem g_X5_volumeNow_0_1 : ab_oks M_X5_volumeNow [(0, .iload_n 2, 1, 2, 0, 0, .null)] = true := by decide +kernel
theorem dc_X5_volumeNow_1 : decode (AM.bytes M_X5_volumeNow) 1 = .ok (.tableswitch 84 5 11 #[43, 84, 52, 59, 66, 72, 78], 43) := by decide +kernel
theorem g_X5_volumeNow_44_3 : ab_oks M_X5_volumeNow [(44, .aload_n 0, 1, 0, 0, 0, .null), (45, .iload_n 1, 1, 1, 0, 0, .null), (46, .iconst 5, 1, 0, 0, 0, .int (nI (5)))] = true := by decide +kernel
theorem dc_X5_volumeNow_47 : decode (AM.bytes M_X5_volumeNow) 47 = .ok (.invokevirtual 62, 3) := by decide +kernel
theorem g_X5_volumeNow_50_2 : ab_oks M_X5_volumeNow [(50, .iconst 1, 1, 0, 0, 0, .int (nI (1))), (51, .isub, 1, 0, 0, 0, .null)] = true := by decide +kernel
theorem dc_X5_volumeNow_52 : decode (AM.bytes M_X5_volumeNow) 52 = .ok (.ireturn, 1) := by decide +kernel
theorem g_X5_volumeNow_85_3 : ab_oks M_X5_volumeNow [(85, .aload_n 0, 1, 0, 0, 0, .null), (86, .iload_n 1, 1, 1, 0, 0, .null), (87, .iload_n 2, 1, 2, 0, 0, .null)] = true := by decide +kernel
theorem dc_X5_volumeNow_88 : decode (AM.bytes M_X5_volumeNow) 88 = .ok (.invokevirtual 62, 3) := by decide +kernel
theorem dc_X5_volumeNow_91 : decode (AM.bytes M_X5_volumeNow) 91 = .ok (.ireturn, 1) := by decide +kernel
theorem g_X5_volumeNow_53_3 : ab_oks M_X5_volumeNow [(53, .aload_n 0, 1, 0, 0, 0, .null), (54, .iload_n 1, 1, 1, 0, 0, .null), (55, .iconst 1, 1, 0, 0, 0, .int (nI (1)))] = true := by decide +kernel
theorem dc_X5_volumeNow_56 : decode (AM.bytes M_X5_volumeNow) 56 = .ok (.invokevirtual 115, 3) := by decide +kernel
theorem dc_X5_volumeNow_59 : decode (AM.bytes M_X5_volumeNow) 59 = .ok (.ireturn, 1) := by decide +kernel
theorem g_X5_volumeNow_60_3 : ab_oks M_X5_volumeNow [(60, .aload_n 0, 1, 0, 0, 0, .null), (61, .iload_n 1, 1, 1, 0, 0, .null), (62, .iconst 2, 1, 0, 0, 0, .int (nI (2)))] = true := by decide +kernel
theorem dc_X5_volumeNow_63 : decode (AM.bytes M_X5_volumeNow) 63 = .ok (.invokevirtual 115, 3) := by decide +kernel
theorem dc_X5_volumeNow_66 : decode (AM.bytes M_X5_volumeNow) 66 = .ok (.ireturn, 1) := by decide +kernel
theorem g_X5_volumeNow_67_2 : ab_oks M_X5_volumeNow [(67, .aload_n 0, 1, 0, 0, 0, .null), (68, .iload_n 1, 1, 1, 0, 0, .null)] = true := by decide +kernel
theorem lk_5_155 : ab_lkV "LeafCradlesModel" 155 M_X5_open 1 [1165, 1167, 62, 97, 1168] = true := by decide +kernel
theorem dc_X5_volumeNow_69 : decode (AM.bytes M_X5_volumeNow) 69 = .ok (.invokevirtual 155, 3) := by decide +kernel
theorem dc_X5_volumeNow_72 : decode (AM.bytes M_X5_volumeNow) 72 = .ok (.ireturn, 1) := by decide +kernel
theorem g_X5_volumeNow_73_2 : ab_oks M_X5_volumeNow [(73, .aload_n 0, 1, 0, 0, 0, .null), (74, .iload_n 1, 1, 1, 0, 0, .null)] = true := by decide +kernel
theorem dc_X5_volumeNow_75 : decode (AM.bytes M_X5_volumeNow) 75 = .ok (.invokevirtual 75, 3) := by decide +kernel
theorem dc_X5_volumeNow_78 : decode (AM.bytes M_X5_volumeNow) 78 = .ok (.ireturn, 1) := by decide +kernel
theorem g_X5_volumeNow_79_2 : ab_oks M_X5_volumeNow [(79, .aload_n 0, 1, 0, 0, 0, .null), (80, .iload_n 1, 1, 1, 0, 0, .null)] = true := by decide +kernel
theorem lk_5_158 : ab_lkV "LeafCradlesModel" 158 M_X5_scanned 1 [1173, 1175, 64, 97, 1176] = true := by decide +kernel
theorem dc_X5_volumeNow_81 : decode (AM.bytes M_X5_volumeNow) 81 = .ok (.invokevirtual 158, 3) := by decide +kernel
theorem dc_X5_volumeNow_84 : decode (AM.bytes M_X5_volumeNow) 84 = .ok (.ireturn, 1) := by decide +kernel
set_option maxRecDepth 100000 in
set_option maxHeartbeats 4000000 in
theorem s_5volumeNow {E : AE} (d : Nat) (v : Nat) (w : Nat)  {o0 a0 t0 p0 u0 l0 : List AC} {z sa ro te fr to un ga pi be : Nat → Int32} {bm en sta sv ln th : Int32} {hh : Int64} (hv : v < 12) (hl : z (11 + 7 * v + 2) = nI (lv z v)) (h40 : lv z v ≤ 40) (hw : w < 12) : CT E M_X5_volumeNow (d + 3) [.ref 16384, .int (nI (v)), .int (nI (w))] (hp o0 a0 t0 p0 (mo z sa ro te fr to un ga pi be bm en sta sv ln th hh) u0 l0) (.inl (some (.int (F_5volumeNow v w z)))) (hp o0 a0 t0 p0 (mo z sa ro te fr to un ga pi be bm en sta sv ln th hh) u0 l0) 0 0 := by
  refine CT.of (L := [some (.ref 16384), some (.int (nI (v))), some (.int (nI (w)))]) rfl rfl ?_
  refine AR.run g_X5_volumeNow_0_1 1 [some (.ref 16384), some (.int (nI (v))), some (.int (nI (w)))] [.int (nI (w))] _ [] rfl trivial ?_
  by_cases w1_1 : w = 5
  · refine AR.tswN (w := w) (tgt := 44) 5 dc_X5_volumeNow_1 (by first | rfl | (simp only [nI_add, pk_mul]; first | done | rfl)) w1_1 (by decide) 0 (by decide) (by decide) rfl (by decide) ?_
    refine AR.run g_X5_volumeNow_44_3 47 [some (.ref 16384), some (.int (nI (v))), some (.int (nI (w)))] [.int (nI (5)), .int (nI (v)), .ref 16384] _ [] rfl trivial ?_
    refine AR.callV1 (16384) [.int (nI (v)), .int (nI (5))] [] lk_5_62 dc_X5_volumeNow_47 rfl rfl (s_ofVolume _ v 5 (by omega) (by omega)) (by first | rfl | (simp only [nI_add, pk_mul]; first | done | rfl)) rfl ?_
    refine AR.run g_X5_volumeNow_50_2 52 [some (.ref 16384), some (.int (nI (v))), some (.int (nI (w)))] [.int ((z (11 + 7 * v + 5)) - (nI (1)))] _ [] rfl trivial ?_
    have e2_0 : F_5volumeNow v w z = ((z (11 + 7 * v + 5)) - (nI (1))) := by rw [F_5volumeNow, if_pos w1_1]
    exact AR.retI dc_X5_volumeNow_52 rfl e2_0.symm rfl
  · by_cases w1_3 : w = 6
    · refine AR.tswN (w := w) (tgt := 85) 6 dc_X5_volumeNow_1 (by first | rfl | (simp only [nI_add, pk_mul]; first | done | rfl)) w1_3 (by decide) 1 (by decide) (by decide) rfl (by decide) ?_
      refine AR.run g_X5_volumeNow_85_3 88 [some (.ref 16384), some (.int (nI (v))), some (.int (nI (w)))] [.int (nI (w)), .int (nI (v)), .ref 16384] _ [] rfl trivial ?_
      refine AR.callV1 (16384) [.int (nI (v)), .int (nI (w))] [] lk_5_62 dc_X5_volumeNow_88 rfl rfl (s_ofVolume _ v w (by omega) (by omega)) (by first | rfl | (simp only [nI_add, pk_mul]; first | done | rfl)) rfl ?_
      have e4_0 : F_5volumeNow v w z = (z (11 + 7 * v + w)) := by rw [F_5volumeNow, if_neg w1_1, if_pos w1_3]
      exact AR.retI dc_X5_volumeNow_91 rfl e4_0.symm rfl
    · by_cases w1_5 : w = 7
      · refine AR.tswN (w := w) (tgt := 53) 7 dc_X5_volumeNow_1 (by first | rfl | (simp only [nI_add, pk_mul]; first | done | rfl)) w1_5 (by decide) 2 (by decide) (by decide) rfl (by decide) ?_
        refine AR.run g_X5_volumeNow_53_3 56 [some (.ref 16384), some (.int (nI (v))), some (.int (nI (w)))] [.int (nI (1)), .int (nI (v)), .ref 16384] _ [] rfl trivial ?_
        refine AR.callV1 (16384) [.int (nI (v)), .int (nI (1))] [] lk_5_115 dc_X5_volumeNow_56 rfl rfl (s_5leavesWith _ v (nI (1)) (by omega) (by first | assumption | exact (hLV v (by omega)).1) (by first | assumption | exact (hLV v (by omega)).2)) (by first | rfl | (simp only [nI_add, pk_mul]; first | done | rfl)) rfl ?_
        have e6_0 : F_5volumeNow v w z = (L_5leavesWith_5 v (nI (1)) z (lv z v)) := by rw [F_5volumeNow, if_neg w1_1, if_neg w1_3, if_pos w1_5]
        exact AR.retI dc_X5_volumeNow_59 rfl e6_0.symm rfl
      · by_cases w1_7 : w = 8
        · refine AR.tswN (w := w) (tgt := 60) 8 dc_X5_volumeNow_1 (by first | rfl | (simp only [nI_add, pk_mul]; first | done | rfl)) w1_7 (by decide) 3 (by decide) (by decide) rfl (by decide) ?_
          refine AR.run g_X5_volumeNow_60_3 63 [some (.ref 16384), some (.int (nI (v))), some (.int (nI (w)))] [.int (nI (2)), .int (nI (v)), .ref 16384] _ [] rfl trivial ?_
          refine AR.callV1 (16384) [.int (nI (v)), .int (nI (2))] [] lk_5_115 dc_X5_volumeNow_63 rfl rfl (s_5leavesWith _ v (nI (2)) (by omega) (by first | assumption | exact (hLV v (by omega)).1) (by first | assumption | exact (hLV v (by omega)).2)) (by first | rfl | (simp only [nI_add, pk_mul]; first | done | rfl)) rfl ?_
          have e8_0 : F_5volumeNow v w z = (L_5leavesWith_5 v (nI (2)) z (lv z v)) := by rw [F_5volumeNow, if_neg w1_1, if_neg w1_3, if_neg w1_5, if_pos w1_7]
          exact AR.retI dc_X5_volumeNow_66 rfl e8_0.symm rfl
        · by_cases w1_9 : w = 9
          · refine AR.tswN (w := w) (tgt := 67) 9 dc_X5_volumeNow_1 (by first | rfl | (simp only [nI_add, pk_mul]; first | done | rfl)) w1_9 (by decide) 4 (by decide) (by decide) rfl (by decide) ?_
            refine AR.run g_X5_volumeNow_67_2 69 [some (.ref 16384), some (.int (nI (v))), some (.int (nI (w)))] [.int (nI (v)), .ref 16384] _ [] rfl trivial ?_
            refine AR.callV1 (16384) [.int (nI (v))] [] lk_5_155 dc_X5_volumeNow_69 rfl rfl (s_5open _ v (by omega) (by first | assumption | exact (hLV v (by omega)).1) (by first | assumption | exact (hLV v (by omega)).2)) (by first | rfl | (simp only [nI_add, pk_mul]; first | done | rfl)) rfl ?_
            have e10_0 : F_5volumeNow v w z = (L_5open_4 v z (lv z v)) := by rw [F_5volumeNow, if_neg w1_1, if_neg w1_3, if_neg w1_5, if_neg w1_7, if_pos w1_9]
            exact AR.retI dc_X5_volumeNow_72 rfl e10_0.symm rfl
          · by_cases w1_11 : w = 10
            · refine AR.tswN (w := w) (tgt := 73) 10 dc_X5_volumeNow_1 (by first | rfl | (simp only [nI_add, pk_mul]; first | done | rfl)) w1_11 (by decide) 5 (by decide) (by decide) rfl (by decide) ?_
              refine AR.run g_X5_volumeNow_73_2 75 [some (.ref 16384), some (.int (nI (v))), some (.int (nI (w)))] [.int (nI (v)), .ref 16384] _ [] rfl trivial ?_
              refine AR.callV1 (16384) [.int (nI (v))] [] lk_5_75 dc_X5_volumeNow_75 rfl rfl (s_nextLeaf _ v (by omega) (by first | assumption | exact (hLV v (by omega)).1) (by first | assumption | exact (hLV v (by omega)).2)) (by first | rfl | (simp only [nI_add, pk_mul]; first | done | rfl)) rfl ?_
              have e12_0 : F_5volumeNow v w z = (oI (nlO z v (lv z v))) := by rw [F_5volumeNow, if_neg w1_1, if_neg w1_3, if_neg w1_5, if_neg w1_7, if_neg w1_9, if_pos w1_11]
              exact AR.retI dc_X5_volumeNow_78 rfl e12_0.symm rfl
            · by_cases w1_13 : w = 11
              · refine AR.tswN (w := w) (tgt := 79) 11 dc_X5_volumeNow_1 (by first | rfl | (simp only [nI_add, pk_mul]; first | done | rfl)) w1_13 (by decide) 6 (by decide) (by decide) rfl (by decide) ?_
                refine AR.run g_X5_volumeNow_79_2 81 [some (.ref 16384), some (.int (nI (v))), some (.int (nI (w)))] [.int (nI (v)), .ref 16384] _ [] rfl trivial ?_
                refine AR.callV1 (16384) [.int (nI (v))] [] lk_5_158 dc_X5_volumeNow_81 rfl rfl (s_5scanned _ v (by omega) (by first | assumption | exact (hLV v (by omega)).1) (by first | assumption | exact (hLV v (by omega)).2)) (by first | rfl | (simp only [nI_add, pk_mul]; first | done | rfl)) rfl ?_
                have e14_0 : F_5volumeNow v w z = (L_5scanned_4 v z (lv z v)) := by rw [F_5volumeNow, if_neg w1_1, if_neg w1_3, if_neg w1_5, if_neg w1_7, if_neg w1_9, if_neg w1_11, if_pos w1_13]
                exact AR.retI dc_X5_volumeNow_84 rfl e14_0.symm rfl
              · refine AR.tswdN (w := w) (tgt := 85) dc_X5_volumeNow_1 (by first | rfl | (simp only [nI_add, pk_mul]; first | done | rfl)) (by omega) (by omega) (by decide) ?_
                refine AR.run g_X5_volumeNow_85_3 88 [some (.ref 16384), some (.int (nI (v))), some (.int (nI (w)))] [.int (nI (w)), .int (nI (v)), .ref 16384] _ [] rfl trivial ?_
                refine AR.callV1 (16384) [.int (nI (v)), .int (nI (w))] [] lk_5_62 dc_X5_volumeNow_88 rfl rfl (s_ofVolume _ v w (by omega) (by omega)) (by first | rfl | (simp only [nI_add, pk_mul]; first | done | rfl)) rfl ?_
                have e15_0 : F_5volumeNow v w z = (z (11 + 7 * v + w)) := by rw [F_5volumeNow, if_neg w1_1, if_neg w1_3, if_neg w1_5, if_neg w1_7, if_neg w1_9, if_neg w1_11, if_neg w1_13]
                exact AR.retI dc_X5_volumeNow_91 rfl e15_0.symm rfl
def F_5leafNow (v : Nat) (k : Nat) (w : Nat) (z : Nat → Int32) : Int32 := if 3 ≤ w then if (F_5isOpen v k z) = 0 then (nI (0)) else (nI (1)) else (z (423 + 3 * (40 * v + k) + w))
theorem g_X5_leafNow_0_2 : ab_oks M_X5_leafNow [(0, .iload_n 3, 1, 3, 0, 0, .null), (1, .iconst 3, 1, 0, 0, 0, .int (nI (3)))] = true := by decide +kernel
theorem dc_X5_leafNow_2 : decode (AM.bytes M_X5_leafNow) 2 = .ok (.if_icmp .ge 13, 3) := by decide +kernel
theorem g_X5_leafNow_15_3 : ab_oks M_X5_leafNow [(15, .aload_n 0, 1, 0, 0, 0, .null), (16, .iload_n 1, 1, 1, 0, 0, .null), (17, .iload_n 2, 1, 2, 0, 0, .null)] = true := by decide +kernel
theorem dc_X5_leafNow_18 : decode (AM.bytes M_X5_leafNow) 18 = .ok (.invokevirtual 152, 3) := by decide +kernel
theorem dc_X5_leafNow_21 : decode (AM.bytes M_X5_leafNow) 21 = .ok (.ifCond .eq 7, 3) := by decide +kernel
theorem g_X5_leafNow_28_1 : ab_oks M_X5_leafNow [(28, .iconst 0, 1, 0, 0, 0, .int (nI (0)))] = true := by decide +kernel
theorem dc_X5_leafNow_29 : decode (AM.bytes M_X5_leafNow) 29 = .ok (.ireturn, 1) := by decide +kernel
theorem g_X5_leafNow_24_2 : ab_oks M_X5_leafNow [(24, .iconst 1, 1, 0, 0, 0, .int (nI (1))), (25, .goto 4, 3, 29, 0, 0, .null)] = true := by decide +kernel
theorem g_X5_leafNow_5_4 : ab_oks M_X5_leafNow [(5, .aload_n 0, 1, 0, 0, 0, .null), (6, .iload_n 1, 1, 1, 0, 0, .null), (7, .iload_n 2, 1, 2, 0, 0, .null), (8, .iload_n 3, 1, 3, 0, 0, .null)] = true := by decide +kernel
theorem dc_X5_leafNow_9 : decode (AM.bytes M_X5_leafNow) 9 = .ok (.invokevirtual 65, 3) := by decide +kernel
theorem g_X5_leafNow_12_1 : ab_oks M_X5_leafNow [(12, .goto 17, 3, 29, 0, 0, .null)] = true := by decide +kernel
set_option maxRecDepth 100000 in
set_option maxHeartbeats 4000000 in
theorem s_5leafNow {E : AE} (d : Nat) (v : Nat) (k : Nat) (w : Nat)  {o0 a0 t0 p0 u0 l0 : List AC} {z sa ro te fr to un ga pi be : Nat → Int32} {bm en sta sv ln th : Int32} {hh : Int64} (hv : v < 12) (hk : k < 40) (hw : w < 4) : CT E M_X5_leafNow (d + 2) [.ref 16384, .int (nI (v)), .int (nI (k)), .int (nI (w))] (hp o0 a0 t0 p0 (mo z sa ro te fr to un ga pi be bm en sta sv ln th hh) u0 l0) (.inl (some (.int (F_5leafNow v k w z)))) (hp o0 a0 t0 p0 (mo z sa ro te fr to un ga pi be bm en sta sv ln th hh) u0 l0) 0 0 := by
  refine CT.of (L := [some (.ref 16384), some (.int (nI (v))), some (.int (nI (k))), some (.int (nI (w)))]) rfl rfl ?_
  refine AR.run g_X5_leafNow_0_2 2 [some (.ref 16384), some (.int (nI (v))), some (.int (nI (k))), some (.int (nI (w)))] [.int (nI (3)), .int (nI (w))] _ [] rfl trivial ?_
  refine AR.ge2N (tgt := 15) (a := w) (b := 3) dc_X5_leafNow_2 (by decide) (by first | rfl | (simp only [nI_add, pk_mul]; first | done | rfl)) (by first | rfl | (simp only [nI_add, pk_mul]; first | done | rfl)) (by omega) (by omega) (fun c2_1 => ?_) (fun c2_1 => ?_)
  · refine AR.run g_X5_leafNow_15_3 18 [some (.ref 16384), some (.int (nI (v))), some (.int (nI (k))), some (.int (nI (w)))] [.int (nI (k)), .int (nI (v)), .ref 16384] _ [] rfl trivial ?_
    refine AR.callV1 (16384) [.int (nI (v)), .int (nI (k))] [] lk_5_152 dc_X5_leafNow_18 rfl rfl (s_5isOpen _ v k (by omega) (by omega)) (by first | rfl | (simp only [nI_add, pk_mul]; first | done | rfl)) rfl ?_
    refine AR.eq (tgt := 28) dc_X5_leafNow_21 (by decide) (fun c21_2 => ?_) (fun c21_2 => ?_)
    · refine AR.run g_X5_leafNow_28_1 29 [some (.ref 16384), some (.int (nI (v))), some (.int (nI (k))), some (.int (nI (w)))] [.int (nI (0))] _ [] rfl trivial ?_
      have e3_0 : F_5leafNow v k w z = (nI (0)) := by rw [F_5leafNow, if_pos (show 3 ≤ w from by omega), if_pos c21_2]
      exact AR.retI dc_X5_leafNow_29 rfl e3_0.symm rfl
    · refine AR.run g_X5_leafNow_24_2 29 [some (.ref 16384), some (.int (nI (v))), some (.int (nI (k))), some (.int (nI (w)))] [.int (nI (1))] _ [] rfl trivial ?_
      have e4_0 : F_5leafNow v k w z = (nI (1)) := by rw [F_5leafNow, if_pos (show 3 ≤ w from by omega), if_neg c21_2]
      exact AR.retI dc_X5_leafNow_29 rfl e4_0.symm rfl
  · refine AR.run g_X5_leafNow_5_4 9 [some (.ref 16384), some (.int (nI (v))), some (.int (nI (k))), some (.int (nI (w)))] [.int (nI (w)), .int (nI (k)), .int (nI (v)), .ref 16384] _ [] rfl trivial ?_
    refine AR.callV1 (16384) [.int (nI (v)), .int (nI (k)), .int (nI (w))] [] lk_5_65 dc_X5_leafNow_9 rfl rfl (s_ofLeaf _ v k w (by omega) (by omega) (by omega)) (by first | rfl | (simp only [nI_add, pk_mul]; first | done | rfl)) rfl ?_
    refine AR.run g_X5_leafNow_12_1 29 [some (.ref 16384), some (.int (nI (v))), some (.int (nI (k))), some (.int (nI (w)))] [.int (z (423 + 3 * (40 * v + k) + w))] _ [] rfl trivial ?_
    have e5_0 : F_5leafNow v k w z = (z (423 + 3 * (40 * v + k) + w)) := by rw [F_5leafNow, if_neg (show ¬ (3 ≤ w) from by omega)]
    exact AR.retI dc_X5_leafNow_29 rfl e5_0.symm rfl
end
section
def voG (z : Nat → Int32) (c : Int32) (n : Nat) : Nat := (vo z c n).getD 0
theorem vo_get {z : Nat → Int32} {c : Int32} {n : Nat} (h : ¬ oI (vo z c n) = -1) : vo z c n = some (voG z c n) ∧ voG z c n < n := by
  obtain ⟨q, hq⟩ := oI_ne h
  have h1 : voG z c n = q := by unfold voG; rw [hq]; rfl
  rw [h1]
  exact ⟨hq, (vo_some hq).1⟩
def nlG (z : Nat → Int32) (v n : Nat) : Nat := (nlO z v n).getD 0
theorem nlO_get {z : Nat → Int32} {v n : Nat} (h : ¬ oI (nlO z v n) = -1) : nlO z v n = some (nlG z v n) ∧ nlG z v n < n := by
  obtain ⟨q, hq⟩ := oI_ne h
  have h1 : nlG z v n = q := by unfold nlG; rw [hq]; rfl
  rw [h1]
  have := nlB_some hq
  exact ⟨hq, by omega⟩
/-- NONE or a number below n -/
def QI (n : Nat) (x : Int32) : Prop := x = -1 ∨ ∃ q : Nat, q < n ∧ x = nI q
theorem QI_get {n : Nat} {x : Int32} (hn : n < 2147483648) (h : QI n x) (hx : ¬ x = -1) : x = nI x.toNatClampNeg ∧ x.toNatClampNeg < n := by
  rcases h with e | ⟨q, h1, rfl⟩
  · exact absurd e hx
  · rw [nI_clamp (by omega)]
    exact ⟨rfl, h1⟩
def B_5overAll_4 (w : Nat) (z : Nat → Int32) (j4 : Nat) (x4_2 : Int32) : (Int32) := (x4_2 + (F_5volumeNow j4 w z))
def L_5overAll_4 (w : Nat) (z : Nat → Int32) : Nat → (Int32)
  | 0 => nI (0)
  | j + 1 => B_5overAll_4 w z j (L_5overAll_4 w z  j)
theorem g_X5_overAll_0_4 : ab_oks M_X5_overAll [(0, .iconst 0, 1, 0, 0, 0, .int (nI (0))), (1, .istore_n 2, 1, 2, 0, 0, .null), (2, .iconst 0, 1, 0, 0, 0, .int (nI (0))), (3, .istore_n 3, 1, 3, 0, 0, .null)] = true := by decide +kernel
theorem g_X5_overAll_4_4 : ab_oks M_X5_overAll [(4, .iload_n 3, 1, 3, 0, 0, .null), (5, .aload_n 0, 1, 0, 0, 0, .null), (6, .getfield 7, 3, 5, 0, 930, .null), (9, .iconst 0, 1, 0, 0, 0, .int (nI (0)))] = true := by decide +kernel
theorem ok_X5_overAll_10 : ab_ok M_X5_overAll (10, .iaload, 1, 0, 0, 0, .null) = true := by decide +kernel
theorem dc_X5_overAll_11 : decode (AM.bytes M_X5_overAll) 11 = .ok (.if_icmp .ge 18, 3) := by decide +kernel
theorem g_X5_overAll_14_4 : ab_oks M_X5_overAll [(14, .iload_n 2, 1, 2, 0, 0, .null), (15, .aload_n 0, 1, 0, 0, 0, .null), (16, .iload_n 3, 1, 3, 0, 0, .null), (17, .iload_n 1, 1, 1, 0, 0, .null)] = true := by decide +kernel
theorem lk_5_161 : ab_lkV "LeafCradlesModel" 161 M_X5_volumeNow 2 [1161, 1163, 61, 97, 1164] = true := by decide +kernel
theorem dc_X5_overAll_18 : decode (AM.bytes M_X5_overAll) 18 = .ok (.invokevirtual 161, 3) := by decide +kernel
theorem g_X5_overAll_21_4 : ab_oks M_X5_overAll [(21, .iadd, 1, 0, 0, 0, .null), (22, .istore_n 2, 1, 2, 0, 0, .null), (23, .iinc 3 1, 3, 3, 0, 0, .int (nI (1))), (26, .goto (-22), 3, 4, 0, 0, .null)] = true := by decide +kernel
theorem g_X5_overAll_29_1 : ab_oks M_X5_overAll [(29, .iload_n 2, 1, 2, 0, 0, .null)] = true := by decide +kernel
theorem dc_X5_overAll_30 : decode (AM.bytes M_X5_overAll) 30 = .ok (.ireturn, 1) := by decide +kernel
set_option maxRecDepth 100000 in
set_option maxHeartbeats 4000000 in
theorem s_5overAll {E : AE} (d : Nat) (w : Nat) {nv : Nat} {nc : Nat} {nr : Nat} {ne : Nat}  {o0 a0 t0 p0 u0 l0 : List AC} {z sa ro te fr to un ga pi be : Nat → Int32} {bm en sta sv ln th : Int32} {hh : Int64} (hZ : ZI z nv nc nr ne) (hw : w < 12) : CT E M_X5_overAll (d + 4) [.ref 16384, .int (nI (w))] (hp o0 a0 t0 p0 (mo z sa ro te fr to un ga pi be bm en sta sv ln th hh) u0 l0) (.inl (some (.int (L_5overAll_4 w z nv)))) (hp o0 a0 t0 p0 (mo z sa ro te fr to un ga pi be bm en sta sv ln th hh) u0 l0) 0 0 := by
  obtain ⟨⟨hnv, h12⟩, ⟨hnc, h4⟩, ⟨hnr, h3⟩, ⟨hne, h60⟩, hLV⟩ := id hZ
  refine CT.of (L := [some (.ref 16384), some (.int (nI (w))), none, none]) rfl rfl ?_
  refine AR.run g_X5_overAll_0_4 4 [some (.ref 16384), some (.int (nI (w))), some (.int (nI (0))), some (.int (nI (0)))] [] _ [] rfl trivial ?_
  refine AR.cast (L' := [some (.ref 16384), some (.int (nI (w))), some (.int (L_5overAll_4 w z 0)), some (.int (nI (0)))]) (by first | rfl | (rw [L_5overAll_4])) rfl rfl (AR.loopN nv (fun j4 => [some (.ref 16384), some (.int (nI (w))), some (.int (L_5overAll_4 w z j4)), some (.int (nI (j4)))]) (fun j4 => (hp o0 a0 t0 p0 (mo z sa ro te fr to un ga pi be bm en sta sv ln th hh) u0 l0)) (fun j4 => True) (fun j4 hj4 hI4 ih4 => ?_) (fun hI4 => ?_) 0 (by omega) (by first | trivial | omega))
  · refine AR.run g_X5_overAll_4_4 10 [some (.ref 16384), some (.int (nI (w))), some (.int (L_5overAll_4 w z j4)), some (.int (nI (j4)))] [.int (nI (0)), .ref 16385, .int (nI (j4))] _ [] rfl trivial ?_
    refine AR.ald (n := 0) (e := 0) ok_X5_overAll_10 (by first | rfl | (simp only [nI_add, pk_mul]; first | done | rfl)) rfl (by omega) (by first | decide | omega) ?_
    refine AR.top hZ.1.1 ?_
    refine AR.ge2N (tgt := 29) (a := j4) (b := nv) dc_X5_overAll_11 (by decide) (by first | rfl | (simp only [nI_add, pk_mul]; first | done | rfl)) (by first | rfl | (simp only [nI_add, pk_mul]; first | done | rfl)) (by omega) (by omega) (fun c11_1 => absurd c11_1 (by omega)) (fun c11_1 => ?_)
    refine AR.run g_X5_overAll_14_4 18 [some (.ref 16384), some (.int (nI (w))), some (.int (L_5overAll_4 w z j4)), some (.int (nI (j4)))] [.int (nI (w)), .int (nI (j4)), .ref 16384, .int (L_5overAll_4 w z j4)] _ [] rfl trivial ?_
    refine AR.callV1 (16384) [.int (nI (j4)), .int (nI (w))] [.int (L_5overAll_4 w z j4)] lk_5_161 dc_X5_overAll_18 rfl rfl (s_5volumeNow _ j4 w (by omega) (by first | assumption | exact (hLV j4 (by omega)).1) (by first | assumption | exact (hLV j4 (by omega)).2) (by omega)) (by first | rfl | (simp only [nI_add, pk_mul]; first | done | rfl)) rfl ?_
    refine AR.run g_X5_overAll_21_4 4 [some (.ref 16384), some (.int (nI (w))), some (.int ((L_5overAll_4 w z j4) + (F_5volumeNow j4 w z))), some (.int ((nI (j4)) + (nI (1))))] [] _ [] rfl trivial ?_
    have e2 : L_5overAll_4 w z (j4 + 1) = ((L_5overAll_4 w z j4) + (F_5volumeNow j4 w z)) := by rw [L_5overAll_4, B_5overAll_4]
    exact AR.cast (L' := [some (.ref 16384), some (.int (nI (w))), some (.int (L_5overAll_4 w z (j4 + 1))), some (.int (nI (j4 + 1)))]) (by rw [e2, nI_add]) rfl rfl (ih4 (by first | trivial | omega))
  · refine AR.run g_X5_overAll_4_4 10 [some (.ref 16384), some (.int (nI (w))), some (.int (L_5overAll_4 w z nv)), some (.int (nI (nv)))] [.int (nI (0)), .ref 16385, .int (nI (nv))] _ [] rfl trivial ?_
    refine AR.ald (n := 0) (e := 0) ok_X5_overAll_10 (by first | rfl | (simp only [nI_add, pk_mul]; first | done | rfl)) rfl (by omega) (by first | decide | omega) ?_
    refine AR.top hZ.1.1 ?_
    refine AR.ge2N (tgt := 29) (a := nv) (b := nv) dc_X5_overAll_11 (by decide) (by first | rfl | (simp only [nI_add, pk_mul]; first | done | rfl)) (by first | rfl | (simp only [nI_add, pk_mul]; first | done | rfl)) (by omega) (by omega) (fun c11_3 => ?_) (fun c11_3 => absurd c11_3 (by omega))
    refine AR.run g_X5_overAll_29_1 30 [some (.ref 16384), some (.int (nI (w))), some (.int (L_5overAll_4 w z nv)), some (.int (nI (nv)))] [.int (L_5overAll_4 w z nv)] _ [] rfl trivial ?_
    exact AR.retI dc_X5_overAll_30 rfl rfl rfl
def B_5free_4 (nv : Nat) (z : Nat → Int32) (j4 : Nat) (x4_1 : Int32) : (Int32) := if (oI (vo z (nI (j4)) nv)) = (-1) then (x4_1 + (nI (1))) else (x4_1 + (nI (0)))
def L_5free_4 (nv : Nat) (z : Nat → Int32) : Nat → (Int32)
  | 0 => nI (0)
  | j + 1 => B_5free_4 nv z j (L_5free_4 nv z  j)
theorem g_X5_free_0_4 : ab_oks M_X5_free [(0, .iconst 0, 1, 0, 0, 0, .int (nI (0))), (1, .istore_n 1, 1, 1, 0, 0, .null), (2, .iconst 0, 1, 0, 0, 0, .int (nI (0))), (3, .istore_n 2, 1, 2, 0, 0, .null)] = true := by decide +kernel
theorem g_X5_free_4_4 : ab_oks M_X5_free [(4, .iload_n 2, 1, 2, 0, 0, .null), (5, .aload_n 0, 1, 0, 0, 0, .null), (6, .getfield 7, 3, 5, 0, 930, .null), (9, .iconst 1, 1, 0, 0, 0, .int (nI (1)))] = true := by decide +kernel
theorem ok_X5_free_10 : ab_ok M_X5_free (10, .iaload, 1, 0, 0, 0, .null) = true := by decide +kernel
theorem dc_X5_free_11 : decode (AM.bytes M_X5_free) 11 = .ok (.if_icmp .ge 26, 3) := by decide +kernel
theorem g_X5_free_14_3 : ab_oks M_X5_free [(14, .iload_n 1, 1, 1, 0, 0, .null), (15, .aload_n 0, 1, 0, 0, 0, .null), (16, .iload_n 2, 1, 2, 0, 0, .null)] = true := by decide +kernel
theorem dc_X5_free_17 : decode (AM.bytes M_X5_free) 17 = .ok (.invokevirtual 69, 3) := by decide +kernel
theorem g_X5_free_20_1 : ab_oks M_X5_free [(20, .iconst (-1), 1, 0, 0, 0, .int (-1))] = true := by decide +kernel
theorem dc_X5_free_21 : decode (AM.bytes M_X5_free) 21 = .ok (.if_icmp .ne 7, 3) := by decide +kernel
theorem g_X5_free_28_5 : ab_oks M_X5_free [(28, .iconst 0, 1, 0, 0, 0, .int (nI (0))), (29, .iadd, 1, 0, 0, 0, .null), (30, .istore_n 1, 1, 1, 0, 0, .null), (31, .iinc 2 1, 3, 2, 0, 0, .int (nI (1))), (34, .goto (-30), 3, 4, 0, 0, .null)] = true := by decide +kernel
theorem g_X5_free_24_6 : ab_oks M_X5_free [(24, .iconst 1, 1, 0, 0, 0, .int (nI (1))), (25, .goto 4, 3, 29, 0, 0, .null), (29, .iadd, 1, 0, 0, 0, .null), (30, .istore_n 1, 1, 1, 0, 0, .null), (31, .iinc 2 1, 3, 2, 0, 0, .int (nI (1))), (34, .goto (-30), 3, 4, 0, 0, .null)] = true := by decide +kernel
theorem g_X5_free_37_1 : ab_oks M_X5_free [(37, .iload_n 1, 1, 1, 0, 0, .null)] = true := by decide +kernel
theorem dc_X5_free_38 : decode (AM.bytes M_X5_free) 38 = .ok (.ireturn, 1) := by decide +kernel
set_option maxRecDepth 100000 in
set_option maxHeartbeats 4000000 in
theorem s_5free {E : AE} (d : Nat) {nv : Nat} {nc : Nat} {nr : Nat} {ne : Nat}  {o0 a0 t0 p0 u0 l0 : List AC} {z sa ro te fr to un ga pi be : Nat → Int32} {bm en sta sv ln th : Int32} {hh : Int64} (hZ : ZI z nv nc nr ne) : CT E M_X5_free (d + 2) [.ref 16384] (hp o0 a0 t0 p0 (mo z sa ro te fr to un ga pi be bm en sta sv ln th hh) u0 l0) (.inl (some (.int (L_5free_4 nv z nc)))) (hp o0 a0 t0 p0 (mo z sa ro te fr to un ga pi be bm en sta sv ln th hh) u0 l0) 0 0 := by
  obtain ⟨⟨hnv, h12⟩, ⟨hnc, h4⟩, ⟨hnr, h3⟩, ⟨hne, h60⟩, hLV⟩ := id hZ
  refine CT.of (L := [some (.ref 16384), none, none]) rfl rfl ?_
  refine AR.run g_X5_free_0_4 4 [some (.ref 16384), some (.int (nI (0))), some (.int (nI (0)))] [] _ [] rfl trivial ?_
  refine AR.cast (L' := [some (.ref 16384), some (.int (L_5free_4 nv z 0)), some (.int (nI (0)))]) (by first | rfl | (rw [L_5free_4])) rfl rfl (AR.loopN nc (fun j4 => [some (.ref 16384), some (.int (L_5free_4 nv z j4)), some (.int (nI (j4)))]) (fun j4 => (hp o0 a0 t0 p0 (mo z sa ro te fr to un ga pi be bm en sta sv ln th hh) u0 l0)) (fun j4 => True) (fun j4 hj4 hI4 ih4 => ?_) (fun hI4 => ?_) 0 (by omega) (by first | trivial | omega))
  · refine AR.run g_X5_free_4_4 10 [some (.ref 16384), some (.int (L_5free_4 nv z j4)), some (.int (nI (j4)))] [.int (nI (1)), .ref 16385, .int (nI (j4))] _ [] rfl trivial ?_
    refine AR.ald (n := 0) (e := 1) ok_X5_free_10 (by first | rfl | (simp only [nI_add, pk_mul]; first | done | rfl)) rfl (by omega) (by first | decide | omega) ?_
    refine AR.top hZ.2.1.1 ?_
    refine AR.ge2N (tgt := 37) (a := j4) (b := nc) dc_X5_free_11 (by decide) (by first | rfl | (simp only [nI_add, pk_mul]; first | done | rfl)) (by first | rfl | (simp only [nI_add, pk_mul]; first | done | rfl)) (by omega) (by omega) (fun c11_1 => absurd c11_1 (by omega)) (fun c11_1 => ?_)
    refine AR.run g_X5_free_14_3 17 [some (.ref 16384), some (.int (L_5free_4 nv z j4)), some (.int (nI (j4)))] [.int (nI (j4)), .ref 16384, .int (L_5free_4 nv z j4)] _ [] rfl trivial ?_
    refine AR.callV1 (16384) [.int (nI (j4))] [.int (L_5free_4 nv z j4)] lk_5_69 dc_X5_free_17 rfl rfl (s_volumeOn _ (nI (j4)) hZ.1.1 hZ.1.2) (by first | rfl | (simp only [nI_add, pk_mul]; first | done | rfl)) rfl ?_
    refine AR.run g_X5_free_20_1 21 [some (.ref 16384), some (.int (L_5free_4 nv z j4)), some (.int (nI (j4)))] [.int (-1), .int (oI (vo z (nI (j4)) nv)), .int (L_5free_4 nv z j4)] _ [] rfl trivial ?_
    refine AR.ne2 (tgt := 28) dc_X5_free_21 (by decide) (fun c21_2 => ?_) (fun c21_2 => ?_)
    · refine AR.run g_X5_free_28_5 4 [some (.ref 16384), some (.int ((L_5free_4 nv z j4) + (nI (0)))), some (.int ((nI (j4)) + (nI (1))))] [] _ [] rfl trivial ?_
      have e3 : L_5free_4 nv z (j4 + 1) = ((L_5free_4 nv z j4) + (nI (0))) := by rw [L_5free_4, B_5free_4, if_neg c21_2]
      exact AR.cast (L' := [some (.ref 16384), some (.int (L_5free_4 nv z (j4 + 1))), some (.int (nI (j4 + 1)))]) (by rw [e3, nI_add]) rfl rfl (ih4 (by first | trivial | omega))
    · refine AR.run g_X5_free_24_6 4 [some (.ref 16384), some (.int ((L_5free_4 nv z j4) + (nI (1)))), some (.int ((nI (j4)) + (nI (1))))] [] _ [] rfl trivial ?_
      have e4 : L_5free_4 nv z (j4 + 1) = ((L_5free_4 nv z j4) + (nI (1))) := by rw [L_5free_4, B_5free_4, if_pos c21_2]
      exact AR.cast (L' := [some (.ref 16384), some (.int (L_5free_4 nv z (j4 + 1))), some (.int (nI (j4 + 1)))]) (by rw [e4, nI_add]) rfl rfl (ih4 (by first | trivial | omega))
  · refine AR.run g_X5_free_4_4 10 [some (.ref 16384), some (.int (L_5free_4 nv z nc)), some (.int (nI (nc)))] [.int (nI (1)), .ref 16385, .int (nI (nc))] _ [] rfl trivial ?_
    refine AR.ald (n := 0) (e := 1) ok_X5_free_10 (by first | rfl | (simp only [nI_add, pk_mul]; first | done | rfl)) rfl (by omega) (by first | decide | omega) ?_
    refine AR.top hZ.2.1.1 ?_
    refine AR.ge2N (tgt := 37) (a := nc) (b := nc) dc_X5_free_11 (by decide) (by first | rfl | (simp only [nI_add, pk_mul]; first | done | rfl)) (by first | rfl | (simp only [nI_add, pk_mul]; first | done | rfl)) (by omega) (by omega) (fun c11_5 => ?_) (fun c11_5 => absurd c11_5 (by omega))
    refine AR.run g_X5_free_37_1 38 [some (.ref 16384), some (.int (L_5free_4 nv z nc)), some (.int (nI (nc)))] [.int (L_5free_4 nv z nc)] _ [] rfl trivial ?_
    exact AR.retI dc_X5_free_38 rfl rfl rfl
def F_5cradleNow (c : Nat) (w : Nat) (nv : Nat) (z : Nat → Int32) : Int32 := if w = 0 then (z (95 + 4 * c + w)) else if w = 1 then (z (95 + 4 * c + w)) else if w = 2 then (oI (vo z (nI (c)) nv)) else if w = 3 then (z (95 + 4 * c + (w - 1))) else if w = 4 then (z (95 + 4 * c + (w - 1))) else (idZ z nv c)
theorem g_X5_cradleNow_0_1 : ab_oks M_X5_cradleNow [(0, .iload_n 2, 1, 2, 0, 0, .null)] = true := by decide +kernel
theorem dc_X5_cradleNow_1 : decode (AM.bytes M_X5_cradleNow) 1 = .ok (.tableswitch 57 0 4 #[35, 35, 42, 48, 48], 35) := by decide +kernel
theorem g_X5_cradleNow_36_3 : ab_oks M_X5_cradleNow [(36, .aload_n 0, 1, 0, 0, 0, .null), (37, .iload_n 1, 1, 1, 0, 0, .null), (38, .iload_n 2, 1, 2, 0, 0, .null)] = true := by decide +kernel
theorem dc_X5_cradleNow_39 : decode (AM.bytes M_X5_cradleNow) 39 = .ok (.invokevirtual 72, 3) := by decide +kernel
theorem dc_X5_cradleNow_42 : decode (AM.bytes M_X5_cradleNow) 42 = .ok (.ireturn, 1) := by decide +kernel
theorem g_X5_cradleNow_43_2 : ab_oks M_X5_cradleNow [(43, .aload_n 0, 1, 0, 0, 0, .null), (44, .iload_n 1, 1, 1, 0, 0, .null)] = true := by decide +kernel
theorem dc_X5_cradleNow_45 : decode (AM.bytes M_X5_cradleNow) 45 = .ok (.invokevirtual 69, 3) := by decide +kernel
theorem dc_X5_cradleNow_48 : decode (AM.bytes M_X5_cradleNow) 48 = .ok (.ireturn, 1) := by decide +kernel
theorem g_X5_cradleNow_49_5 : ab_oks M_X5_cradleNow [(49, .aload_n 0, 1, 0, 0, 0, .null), (50, .iload_n 1, 1, 1, 0, 0, .null), (51, .iload_n 2, 1, 2, 0, 0, .null), (52, .iconst 1, 1, 0, 0, 0, .int (nI (1))), (53, .isub, 1, 0, 0, 0, .null)] = true := by decide +kernel
theorem dc_X5_cradleNow_54 : decode (AM.bytes M_X5_cradleNow) 54 = .ok (.invokevirtual 72, 3) := by decide +kernel
theorem dc_X5_cradleNow_57 : decode (AM.bytes M_X5_cradleNow) 57 = .ok (.ireturn, 1) := by decide +kernel
theorem g_X5_cradleNow_58_2 : ab_oks M_X5_cradleNow [(58, .aload_n 0, 1, 0, 0, 0, .null), (59, .iload_n 1, 1, 1, 0, 0, .null)] = true := by decide +kernel
theorem lk_5_101 : ab_lkV "LeafCradlesModel" 101 M_X5_idle 1 [1085, 1087, 49, 97, 1088] = true := by decide +kernel
theorem dc_X5_cradleNow_60 : decode (AM.bytes M_X5_cradleNow) 60 = .ok (.invokevirtual 101, 3) := by decide +kernel
theorem dc_X5_cradleNow_63 : decode (AM.bytes M_X5_cradleNow) 63 = .ok (.ireturn, 1) := by decide +kernel
set_option maxRecDepth 100000 in
set_option maxHeartbeats 4000000 in
theorem s_5cradleNow {E : AE} (d : Nat) (c : Nat) (w : Nat) {nv : Nat} {nc : Nat} {nr : Nat} {ne : Nat}  {o0 a0 t0 p0 u0 l0 : List AC} {z sa ro te fr to un ga pi be : Nat → Int32} {bm en sta sv ln th : Int32} {hh : Int64} (hZ : ZI z nv nc nr ne) (hc : c < 4) (hw : w < 6) : CT E M_X5_cradleNow (d + 3) [.ref 16384, .int (nI (c)), .int (nI (w))] (hp o0 a0 t0 p0 (mo z sa ro te fr to un ga pi be bm en sta sv ln th hh) u0 l0) (.inl (some (.int (F_5cradleNow c w nv z)))) (hp o0 a0 t0 p0 (mo z sa ro te fr to un ga pi be bm en sta sv ln th hh) u0 l0) 0 0 := by
  obtain ⟨⟨hnv, h12⟩, ⟨hnc, h4⟩, ⟨hnr, h3⟩, ⟨hne, h60⟩, hLV⟩ := id hZ
  refine CT.of (L := [some (.ref 16384), some (.int (nI (c))), some (.int (nI (w)))]) rfl rfl ?_
  refine AR.run g_X5_cradleNow_0_1 1 [some (.ref 16384), some (.int (nI (c))), some (.int (nI (w)))] [.int (nI (w))] _ [] rfl trivial ?_
  by_cases w1_1 : w = 0
  · refine AR.tswN (w := w) (tgt := 36) 0 dc_X5_cradleNow_1 (by first | rfl | (simp only [nI_add, pk_mul]; first | done | rfl)) w1_1 (by decide) 0 (by decide) (by decide) rfl (by decide) ?_
    refine AR.run g_X5_cradleNow_36_3 39 [some (.ref 16384), some (.int (nI (c))), some (.int (nI (w)))] [.int (nI (w)), .int (nI (c)), .ref 16384] _ [] rfl trivial ?_
    refine AR.callV1 (16384) [.int (nI (c)), .int (nI (w))] [] lk_5_72 dc_X5_cradleNow_39 rfl rfl (s_ofCradle _ c w (by omega) (by omega)) (by first | rfl | (simp only [nI_add, pk_mul]; first | done | rfl)) rfl ?_
    have e2_0 : F_5cradleNow c w nv z = (z (95 + 4 * c + w)) := by rw [F_5cradleNow, if_pos w1_1]
    exact AR.retI dc_X5_cradleNow_42 rfl e2_0.symm rfl
  · by_cases w1_3 : w = 1
    · refine AR.tswN (w := w) (tgt := 36) 1 dc_X5_cradleNow_1 (by first | rfl | (simp only [nI_add, pk_mul]; first | done | rfl)) w1_3 (by decide) 1 (by decide) (by decide) rfl (by decide) ?_
      refine AR.run g_X5_cradleNow_36_3 39 [some (.ref 16384), some (.int (nI (c))), some (.int (nI (w)))] [.int (nI (w)), .int (nI (c)), .ref 16384] _ [] rfl trivial ?_
      refine AR.callV1 (16384) [.int (nI (c)), .int (nI (w))] [] lk_5_72 dc_X5_cradleNow_39 rfl rfl (s_ofCradle _ c w (by omega) (by omega)) (by first | rfl | (simp only [nI_add, pk_mul]; first | done | rfl)) rfl ?_
      have e4_0 : F_5cradleNow c w nv z = (z (95 + 4 * c + w)) := by rw [F_5cradleNow, if_neg w1_1, if_pos w1_3]
      exact AR.retI dc_X5_cradleNow_42 rfl e4_0.symm rfl
    · by_cases w1_5 : w = 2
      · refine AR.tswN (w := w) (tgt := 43) 2 dc_X5_cradleNow_1 (by first | rfl | (simp only [nI_add, pk_mul]; first | done | rfl)) w1_5 (by decide) 2 (by decide) (by decide) rfl (by decide) ?_
        refine AR.run g_X5_cradleNow_43_2 45 [some (.ref 16384), some (.int (nI (c))), some (.int (nI (w)))] [.int (nI (c)), .ref 16384] _ [] rfl trivial ?_
        refine AR.callV1 (16384) [.int (nI (c))] [] lk_5_69 dc_X5_cradleNow_45 rfl rfl (s_volumeOn _ (nI (c)) hZ.1.1 hZ.1.2) (by first | rfl | (simp only [nI_add, pk_mul]; first | done | rfl)) rfl ?_
        have e6_0 : F_5cradleNow c w nv z = (oI (vo z (nI (c)) nv)) := by rw [F_5cradleNow, if_neg w1_1, if_neg w1_3, if_pos w1_5]
        exact AR.retI dc_X5_cradleNow_48 rfl e6_0.symm rfl
      · by_cases w1_7 : w = 3
        · refine AR.tswN (w := w) (tgt := 49) 3 dc_X5_cradleNow_1 (by first | rfl | (simp only [nI_add, pk_mul]; first | done | rfl)) w1_7 (by decide) 3 (by decide) (by decide) rfl (by decide) ?_
          refine AR.run g_X5_cradleNow_49_5 54 [some (.ref 16384), some (.int (nI (c))), some (.int (nI (w)))] [.int ((nI (w)) - (nI (1))), .int (nI (c)), .ref 16384] _ [] rfl trivial ?_
          refine AR.cast (L' := [some (.ref 16384), some (.int (nI (c))), some (.int (nI (w)))]) (st' := [.int (nI ((w - 1))), .int (nI (c)), .ref 16384]) rfl (by rw [pk_sub (by omega)]) rfl ?_
          refine AR.callV1 (16384) [.int (nI (c)), .int (nI ((w - 1)))] [] lk_5_72 dc_X5_cradleNow_54 rfl rfl (s_ofCradle _ c (w - 1) (by omega) (by omega)) (by first | rfl | (simp only [nI_add, pk_mul]; first | done | rfl)) rfl ?_
          have e8_0 : F_5cradleNow c w nv z = (z (95 + 4 * c + (w - 1))) := by rw [F_5cradleNow, if_neg w1_1, if_neg w1_3, if_neg w1_5, if_pos w1_7]
          exact AR.retI dc_X5_cradleNow_57 rfl e8_0.symm rfl
        · by_cases w1_9 : w = 4
          · refine AR.tswN (w := w) (tgt := 49) 4 dc_X5_cradleNow_1 (by first | rfl | (simp only [nI_add, pk_mul]; first | done | rfl)) w1_9 (by decide) 4 (by decide) (by decide) rfl (by decide) ?_
            refine AR.run g_X5_cradleNow_49_5 54 [some (.ref 16384), some (.int (nI (c))), some (.int (nI (w)))] [.int ((nI (w)) - (nI (1))), .int (nI (c)), .ref 16384] _ [] rfl trivial ?_
            refine AR.cast (L' := [some (.ref 16384), some (.int (nI (c))), some (.int (nI (w)))]) (st' := [.int (nI ((w - 1))), .int (nI (c)), .ref 16384]) rfl (by rw [pk_sub (by omega)]) rfl ?_
            refine AR.callV1 (16384) [.int (nI (c)), .int (nI ((w - 1)))] [] lk_5_72 dc_X5_cradleNow_54 rfl rfl (s_ofCradle _ c (w - 1) (by omega) (by omega)) (by first | rfl | (simp only [nI_add, pk_mul]; first | done | rfl)) rfl ?_
            have e10_0 : F_5cradleNow c w nv z = (z (95 + 4 * c + (w - 1))) := by rw [F_5cradleNow, if_neg w1_1, if_neg w1_3, if_neg w1_5, if_neg w1_7, if_pos w1_9]
            exact AR.retI dc_X5_cradleNow_57 rfl e10_0.symm rfl
          · refine AR.tswdN (w := w) (tgt := 58) dc_X5_cradleNow_1 (by first | rfl | (simp only [nI_add, pk_mul]; first | done | rfl)) (by omega) (by omega) (by decide) ?_
            refine AR.run g_X5_cradleNow_58_2 60 [some (.ref 16384), some (.int (nI (c))), some (.int (nI (w)))] [.int (nI (c)), .ref 16384] _ [] rfl trivial ?_
            refine AR.callV1 (16384) [.int (nI (c))] [] lk_5_101 dc_X5_cradleNow_60 rfl rfl (s_idle _ c (by omega) hZ.1.1 hZ.1.2 hZ.2.2.2.2) (by first | rfl | (simp only [nI_add, pk_mul]; first | done | rfl)) rfl ?_
            have e11_0 : F_5cradleNow c w nv z = (idZ z nv c) := by rw [F_5cradleNow, if_neg w1_1, if_neg w1_3, if_neg w1_5, if_neg w1_7, if_neg w1_9]
            exact AR.retI dc_X5_cradleNow_63 rfl e11_0.symm rfl
def B_5doneBy_4 (c : Int32) (z : Nat → Int32) (j4 : Nat) (x4_2 : Int32) : (Int32) := if c = (-1) then (x4_2 + (z (95 + 4 * j4 + 3))) else if (nI (j4)) = c then (x4_2 + (z (95 + 4 * j4 + 3))) else (x4_2 + (nI (0)))
def L_5doneBy_4 (c : Int32) (z : Nat → Int32) : Nat → (Int32)
  | 0 => nI (0)
  | j + 1 => B_5doneBy_4 c z j (L_5doneBy_4 c z  j)
theorem g_X5_doneBy_0_4 : ab_oks M_X5_doneBy [(0, .iconst 0, 1, 0, 0, 0, .int (nI (0))), (1, .istore_n 2, 1, 2, 0, 0, .null), (2, .iconst 0, 1, 0, 0, 0, .int (nI (0))), (3, .istore_n 3, 1, 3, 0, 0, .null)] = true := by decide +kernel
theorem g_X5_doneBy_4_4 : ab_oks M_X5_doneBy [(4, .iload_n 3, 1, 3, 0, 0, .null), (5, .aload_n 0, 1, 0, 0, 0, .null), (6, .getfield 7, 3, 5, 0, 930, .null), (9, .iconst 1, 1, 0, 0, 0, .int (nI (1)))] = true := by decide +kernel
theorem ok_X5_doneBy_10 : ab_ok M_X5_doneBy (10, .iaload, 1, 0, 0, 0, .null) = true := by decide +kernel
theorem dc_X5_doneBy_11 : decode (AM.bytes M_X5_doneBy) 11 = .ok (.if_icmp .ge 32, 3) := by decide +kernel
theorem g_X5_doneBy_14_3 : ab_oks M_X5_doneBy [(14, .iload_n 2, 1, 2, 0, 0, .null), (15, .iload_n 1, 1, 1, 0, 0, .null), (16, .iconst (-1), 1, 0, 0, 0, .int (-1))] = true := by decide +kernel
theorem dc_X5_doneBy_17 : decode (AM.bytes M_X5_doneBy) 17 = .ok (.if_icmp .eq 8, 3) := by decide +kernel
theorem g_X5_doneBy_25_3 : ab_oks M_X5_doneBy [(25, .aload_n 0, 1, 0, 0, 0, .null), (26, .iload_n 3, 1, 3, 0, 0, .null), (27, .iconst 3, 1, 0, 0, 0, .int (nI (3)))] = true := by decide +kernel
theorem dc_X5_doneBy_28 : decode (AM.bytes M_X5_doneBy) 28 = .ok (.invokevirtual 72, 3) := by decide +kernel
theorem g_X5_doneBy_31_5 : ab_oks M_X5_doneBy [(31, .goto 4, 3, 35, 0, 0, .null), (35, .iadd, 1, 0, 0, 0, .null), (36, .istore_n 2, 1, 2, 0, 0, .null), (37, .iinc 3 1, 3, 3, 0, 0, .int (nI (1))), (40, .goto (-36), 3, 4, 0, 0, .null)] = true := by decide +kernel
theorem g_X5_doneBy_20_2 : ab_oks M_X5_doneBy [(20, .iload_n 3, 1, 3, 0, 0, .null), (21, .iload_n 1, 1, 1, 0, 0, .null)] = true := by decide +kernel
theorem dc_X5_doneBy_22 : decode (AM.bytes M_X5_doneBy) 22 = .ok (.if_icmp .ne 12, 3) := by decide +kernel
theorem g_X5_doneBy_34_5 : ab_oks M_X5_doneBy [(34, .iconst 0, 1, 0, 0, 0, .int (nI (0))), (35, .iadd, 1, 0, 0, 0, .null), (36, .istore_n 2, 1, 2, 0, 0, .null), (37, .iinc 3 1, 3, 3, 0, 0, .int (nI (1))), (40, .goto (-36), 3, 4, 0, 0, .null)] = true := by decide +kernel
theorem g_X5_doneBy_43_1 : ab_oks M_X5_doneBy [(43, .iload_n 2, 1, 2, 0, 0, .null)] = true := by decide +kernel
theorem dc_X5_doneBy_44 : decode (AM.bytes M_X5_doneBy) 44 = .ok (.ireturn, 1) := by decide +kernel
set_option maxRecDepth 100000 in
set_option maxHeartbeats 4000000 in
theorem s_5doneBy {E : AE} (d : Nat) (c : Int32) {nv : Nat} {nc : Nat} {nr : Nat} {ne : Nat}  {o0 a0 t0 p0 u0 l0 : List AC} {z sa ro te fr to un ga pi be : Nat → Int32} {bm en sta sv ln th : Int32} {hh : Int64} (hZ : ZI z nv nc nr ne) : CT E M_X5_doneBy (d + 1) [.ref 16384, .int (c)] (hp o0 a0 t0 p0 (mo z sa ro te fr to un ga pi be bm en sta sv ln th hh) u0 l0) (.inl (some (.int (L_5doneBy_4 c z nc)))) (hp o0 a0 t0 p0 (mo z sa ro te fr to un ga pi be bm en sta sv ln th hh) u0 l0) 0 0 := by
  obtain ⟨⟨hnv, h12⟩, ⟨hnc, h4⟩, ⟨hnr, h3⟩, ⟨hne, h60⟩, hLV⟩ := id hZ
  refine CT.of (L := [some (.ref 16384), some (.int (c)), none, none]) rfl rfl ?_
  refine AR.run g_X5_doneBy_0_4 4 [some (.ref 16384), some (.int (c)), some (.int (nI (0))), some (.int (nI (0)))] [] _ [] rfl trivial ?_
  refine AR.cast (L' := [some (.ref 16384), some (.int (c)), some (.int (L_5doneBy_4 c z 0)), some (.int (nI (0)))]) (by first | rfl | (rw [L_5doneBy_4])) rfl rfl (AR.loopN nc (fun j4 => [some (.ref 16384), some (.int (c)), some (.int (L_5doneBy_4 c z j4)), some (.int (nI (j4)))]) (fun j4 => (hp o0 a0 t0 p0 (mo z sa ro te fr to un ga pi be bm en sta sv ln th hh) u0 l0)) (fun j4 => True) (fun j4 hj4 hI4 ih4 => ?_) (fun hI4 => ?_) 0 (by omega) (by first | trivial | omega))
  · refine AR.run g_X5_doneBy_4_4 10 [some (.ref 16384), some (.int (c)), some (.int (L_5doneBy_4 c z j4)), some (.int (nI (j4)))] [.int (nI (1)), .ref 16385, .int (nI (j4))] _ [] rfl trivial ?_
    refine AR.ald (n := 0) (e := 1) ok_X5_doneBy_10 (by first | rfl | (simp only [nI_add, pk_mul]; first | done | rfl)) rfl (by omega) (by first | decide | omega) ?_
    refine AR.top hZ.2.1.1 ?_
    refine AR.ge2N (tgt := 43) (a := j4) (b := nc) dc_X5_doneBy_11 (by decide) (by first | rfl | (simp only [nI_add, pk_mul]; first | done | rfl)) (by first | rfl | (simp only [nI_add, pk_mul]; first | done | rfl)) (by omega) (by omega) (fun c11_1 => absurd c11_1 (by omega)) (fun c11_1 => ?_)
    refine AR.run g_X5_doneBy_14_3 17 [some (.ref 16384), some (.int (c)), some (.int (L_5doneBy_4 c z j4)), some (.int (nI (j4)))] [.int (-1), .int (c), .int (L_5doneBy_4 c z j4)] _ [] rfl trivial ?_
    refine AR.eq2 (tgt := 25) dc_X5_doneBy_17 (by decide) (fun c17_2 => ?_) (fun c17_2 => ?_)
    · refine AR.run g_X5_doneBy_25_3 28 [some (.ref 16384), some (.int (c)), some (.int (L_5doneBy_4 c z j4)), some (.int (nI (j4)))] [.int (nI (3)), .int (nI (j4)), .ref 16384, .int (L_5doneBy_4 c z j4)] _ [] rfl trivial ?_
      refine AR.callV1 (16384) [.int (nI (j4)), .int (nI (3))] [.int (L_5doneBy_4 c z j4)] lk_5_72 dc_X5_doneBy_28 rfl rfl (s_ofCradle _ j4 3 (by omega) (by omega)) (by first | rfl | (simp only [nI_add, pk_mul]; first | done | rfl)) rfl ?_
      refine AR.run g_X5_doneBy_31_5 4 [some (.ref 16384), some (.int (c)), some (.int ((L_5doneBy_4 c z j4) + (z (95 + 4 * j4 + 3)))), some (.int ((nI (j4)) + (nI (1))))] [] _ [] rfl trivial ?_
      have e3 : L_5doneBy_4 c z (j4 + 1) = ((L_5doneBy_4 c z j4) + (z (95 + 4 * j4 + 3))) := by rw [L_5doneBy_4, B_5doneBy_4, if_pos c17_2]
      exact AR.cast (L' := [some (.ref 16384), some (.int (c)), some (.int (L_5doneBy_4 c z (j4 + 1))), some (.int (nI (j4 + 1)))]) (by rw [e3, nI_add]) rfl rfl (ih4 (by first | trivial | omega))
    · refine AR.run g_X5_doneBy_20_2 22 [some (.ref 16384), some (.int (c)), some (.int (L_5doneBy_4 c z j4)), some (.int (nI (j4)))] [.int (c), .int (nI (j4)), .int (L_5doneBy_4 c z j4)] _ [] rfl trivial ?_
      refine AR.ne2 (tgt := 34) dc_X5_doneBy_22 (by decide) (fun c22_4 => ?_) (fun c22_4 => ?_)
      · refine AR.run g_X5_doneBy_34_5 4 [some (.ref 16384), some (.int (c)), some (.int ((L_5doneBy_4 c z j4) + (nI (0)))), some (.int ((nI (j4)) + (nI (1))))] [] _ [] rfl trivial ?_
        have e5 : L_5doneBy_4 c z (j4 + 1) = ((L_5doneBy_4 c z j4) + (nI (0))) := by rw [L_5doneBy_4, B_5doneBy_4, if_neg c17_2, if_neg c22_4]
        exact AR.cast (L' := [some (.ref 16384), some (.int (c)), some (.int (L_5doneBy_4 c z (j4 + 1))), some (.int (nI (j4 + 1)))]) (by rw [e5, nI_add]) rfl rfl (ih4 (by first | trivial | omega))
      · refine AR.run g_X5_doneBy_25_3 28 [some (.ref 16384), some (.int (c)), some (.int (L_5doneBy_4 c z j4)), some (.int (nI (j4)))] [.int (nI (3)), .int (nI (j4)), .ref 16384, .int (L_5doneBy_4 c z j4)] _ [] rfl trivial ?_
        refine AR.callV1 (16384) [.int (nI (j4)), .int (nI (3))] [.int (L_5doneBy_4 c z j4)] lk_5_72 dc_X5_doneBy_28 rfl rfl (s_ofCradle _ j4 3 (by omega) (by omega)) (by first | rfl | (simp only [nI_add, pk_mul]; first | done | rfl)) rfl ?_
        refine AR.run g_X5_doneBy_31_5 4 [some (.ref 16384), some (.int (c)), some (.int ((L_5doneBy_4 c z j4) + (z (95 + 4 * j4 + 3)))), some (.int ((nI (j4)) + (nI (1))))] [] _ [] rfl trivial ?_
        have e6 : L_5doneBy_4 c z (j4 + 1) = ((L_5doneBy_4 c z j4) + (z (95 + 4 * j4 + 3))) := by rw [L_5doneBy_4, B_5doneBy_4, if_neg c17_2, if_pos c22_4]
        exact AR.cast (L' := [some (.ref 16384), some (.int (c)), some (.int (L_5doneBy_4 c z (j4 + 1))), some (.int (nI (j4 + 1)))]) (by rw [e6, nI_add]) rfl rfl (ih4 (by first | trivial | omega))
  · refine AR.run g_X5_doneBy_4_4 10 [some (.ref 16384), some (.int (c)), some (.int (L_5doneBy_4 c z nc)), some (.int (nI (nc)))] [.int (nI (1)), .ref 16385, .int (nI (nc))] _ [] rfl trivial ?_
    refine AR.ald (n := 0) (e := 1) ok_X5_doneBy_10 (by first | rfl | (simp only [nI_add, pk_mul]; first | done | rfl)) rfl (by omega) (by first | decide | omega) ?_
    refine AR.top hZ.2.1.1 ?_
    refine AR.ge2N (tgt := 43) (a := nc) (b := nc) dc_X5_doneBy_11 (by decide) (by first | rfl | (simp only [nI_add, pk_mul]; first | done | rfl)) (by first | rfl | (simp only [nI_add, pk_mul]; first | done | rfl)) (by omega) (by omega) (fun c11_7 => ?_) (fun c11_7 => absurd c11_7 (by omega))
    refine AR.run g_X5_doneBy_43_1 44 [some (.ref 16384), some (.int (c)), some (.int (L_5doneBy_4 c z nc)), some (.int (nI (nc)))] [.int (L_5doneBy_4 c z nc)] _ [] rfl trivial ?_
    exact AR.retI dc_X5_doneBy_44 rfl rfl rfl
def B_5whereNow_5 (v : Int32) (m : Int32) (z : Nat → Int32) (j5 : Nat) (x5_3 : Int32) : (Int32) := if m < (z (123 + (5 * j5))) then x5_3 else if (z ((123 + (5 * j5)) + 2)) = v then (z ((123 + (5 * j5)) + 3)) else x5_3
def L_5whereNow_5 (v : Int32) (m : Int32) (z : Nat → Int32) : Nat → (Int32)
  | 0 => -1
  | j + 1 => B_5whereNow_5 v m z j (L_5whereNow_5 v m z  j)
theorem g_X5_whereNow_0_4 : ab_oks M_X5_whereNow [(0, .iconst (-1), 1, 0, 0, 0, .int (-1)), (1, .istore_n 3, 1, 3, 0, 0, .null), (2, .iconst 0, 1, 0, 0, 0, .int (nI (0))), (3, .istore 4, 2, 4, 0, 0, .null)] = true := by decide +kernel
theorem g_X5_whereNow_5_4 : ab_oks M_X5_whereNow [(5, .iload 4, 2, 4, 0, 0, .null), (7, .aload_n 0, 1, 0, 0, 0, .null), (8, .getfield 7, 3, 5, 0, 930, .null), (11, .iconst 5, 1, 0, 0, 0, .int (nI (5)))] = true := by decide +kernel
theorem ok_X5_whereNow_12 : ab_ok M_X5_whereNow (12, .iaload, 1, 0, 0, 0, .null) = true := by decide +kernel
theorem dc_X5_whereNow_13 : decode (AM.bytes M_X5_whereNow) 13 = .ok (.if_icmp .ge 56, 3) := by decide +kernel
theorem g_X5_whereNow_16_9 : ab_oks M_X5_whereNow [(16, .bipush 123, 2, 0, 0, 0, .int (nI (123))), (18, .iconst 5, 1, 0, 0, 0, .int (nI (5))), (19, .iload 4, 2, 4, 0, 0, .null), (21, .imul, 1, 0, 0, 0, .null), (22, .iadd, 1, 0, 0, 0, .null), (23, .istore 5, 2, 5, 0, 0, .null), (25, .aload_n 0, 1, 0, 0, 0, .null), (26, .getfield 7, 3, 5, 0, 930, .null), (29, .iload 5, 2, 5, 0, 0, .null)] = true := by decide +kernel
theorem ok_X5_whereNow_31 : ab_ok M_X5_whereNow (31, .iaload, 1, 0, 0, 0, .null) = true := by decide +kernel
theorem g_X5_whereNow_32_1 : ab_oks M_X5_whereNow [(32, .iload_n 2, 1, 2, 0, 0, .null)] = true := by decide +kernel
theorem dc_X5_whereNow_33 : decode (AM.bytes M_X5_whereNow) 33 = .ok (.if_icmp .gt 28, 3) := by decide +kernel
theorem g_X5_whereNow_61_4 : ab_oks M_X5_whereNow [(61, .iload_n 3, 1, 3, 0, 0, .null), (62, .istore_n 3, 1, 3, 0, 0, .null), (63, .iinc 4 1, 3, 4, 0, 0, .int (nI (1))), (66, .goto (-61), 3, 5, 0, 0, .null)] = true := by decide +kernel
theorem g_X5_whereNow_36_5 : ab_oks M_X5_whereNow [(36, .aload_n 0, 1, 0, 0, 0, .null), (37, .getfield 7, 3, 5, 0, 930, .null), (40, .iload 5, 2, 5, 0, 0, .null), (42, .iconst 2, 1, 0, 0, 0, .int (nI (2))), (43, .iadd, 1, 0, 0, 0, .null)] = true := by decide +kernel
theorem ok_X5_whereNow_44 : ab_ok M_X5_whereNow (44, .iaload, 1, 0, 0, 0, .null) = true := by decide +kernel
theorem g_X5_whereNow_45_1 : ab_oks M_X5_whereNow [(45, .iload_n 1, 1, 1, 0, 0, .null)] = true := by decide +kernel
theorem dc_X5_whereNow_46 : decode (AM.bytes M_X5_whereNow) 46 = .ok (.if_icmp .ne 15, 3) := by decide +kernel
theorem g_X5_whereNow_49_5 : ab_oks M_X5_whereNow [(49, .aload_n 0, 1, 0, 0, 0, .null), (50, .getfield 7, 3, 5, 0, 930, .null), (53, .iload 5, 2, 5, 0, 0, .null), (55, .iconst 3, 1, 0, 0, 0, .int (nI (3))), (56, .iadd, 1, 0, 0, 0, .null)] = true := by decide +kernel
theorem ok_X5_whereNow_57 : ab_ok M_X5_whereNow (57, .iaload, 1, 0, 0, 0, .null) = true := by decide +kernel
theorem g_X5_whereNow_58_4 : ab_oks M_X5_whereNow [(58, .goto 4, 3, 62, 0, 0, .null), (62, .istore_n 3, 1, 3, 0, 0, .null), (63, .iinc 4 1, 3, 4, 0, 0, .int (nI (1))), (66, .goto (-61), 3, 5, 0, 0, .null)] = true := by decide +kernel
theorem g_X5_whereNow_69_1 : ab_oks M_X5_whereNow [(69, .iload_n 3, 1, 3, 0, 0, .null)] = true := by decide +kernel
theorem dc_X5_whereNow_70 : decode (AM.bytes M_X5_whereNow) 70 = .ok (.ireturn, 1) := by decide +kernel
set_option maxRecDepth 100000 in
set_option maxHeartbeats 4000000 in
theorem s_5whereNow {E : AE} (d : Nat) (v : Int32) (m : Int32) {nv : Nat} {nc : Nat} {nr : Nat} {ne : Nat}  {o0 a0 t0 p0 u0 l0 : List AC} {z sa ro te fr to un ga pi be : Nat → Int32} {bm en sta sv ln th : Int32} {hh : Int64} (hZ : ZI z nv nc nr ne) : CT E M_X5_whereNow d [.ref 16384, .int (v), .int (m)] (hp o0 a0 t0 p0 (mo z sa ro te fr to un ga pi be bm en sta sv ln th hh) u0 l0) (.inl (some (.int (L_5whereNow_5 v m z ne)))) (hp o0 a0 t0 p0 (mo z sa ro te fr to un ga pi be bm en sta sv ln th hh) u0 l0) 0 0 := by
  obtain ⟨⟨hnv, h12⟩, ⟨hnc, h4⟩, ⟨hnr, h3⟩, ⟨hne, h60⟩, hLV⟩ := id hZ
  refine CT.of (L := [some (.ref 16384), some (.int (v)), some (.int (m)), none, none, none]) rfl rfl ?_
  refine AR.run g_X5_whereNow_0_4 5 [some (.ref 16384), some (.int (v)), some (.int (m)), some (.int (-1)), some (.int (nI (0))), none] [] _ [] rfl trivial ?_
  refine AR.cast (L' := [some (.ref 16384), some (.int (v)), some (.int (m)), some (.int (L_5whereNow_5 v m z 0)), some (.int (nI (0))), none]) (by first | rfl | (rw [L_5whereNow_5])) rfl rfl (AR.loopN ne (fun j5 => [some (.ref 16384), some (.int (v)), some (.int (m)), some (.int (L_5whereNow_5 v m z j5)), some (.int (nI (j5))), none]) (fun j5 => (hp o0 a0 t0 p0 (mo z sa ro te fr to un ga pi be bm en sta sv ln th hh) u0 l0)) (fun j5 => True) (fun j5 hj5 hI5 ih5 => ?_) (fun hI5 => ?_) 0 (by omega) (by first | trivial | omega))
  · refine AR.run g_X5_whereNow_5_4 12 [some (.ref 16384), some (.int (v)), some (.int (m)), some (.int (L_5whereNow_5 v m z j5)), some (.int (nI (j5))), none] [.int (nI (5)), .ref 16385, .int (nI (j5))] _ [] rfl trivial ?_
    refine AR.ald (n := 0) (e := 5) ok_X5_whereNow_12 (by first | rfl | (simp only [nI_add, pk_mul]; first | done | rfl)) rfl (by omega) (by first | decide | omega) ?_
    refine AR.top hZ.2.2.2.1.1 ?_
    refine AR.ge2N (tgt := 69) (a := j5) (b := ne) dc_X5_whereNow_13 (by decide) (by first | rfl | (simp only [nI_add, pk_mul]; first | done | rfl)) (by first | rfl | (simp only [nI_add, pk_mul]; first | done | rfl)) (by omega) (by omega) (fun c13_1 => absurd c13_1 (by omega)) (fun c13_1 => ?_)
    refine AR.run g_X5_whereNow_16_9 31 [some (.ref 16384), some (.int (v)), some (.int (m)), some (.int (L_5whereNow_5 v m z j5)), some (.int (nI (j5))), some (.int ((nI (123)) + ((nI (5)) * (nI (j5)))))] [.int ((nI (123)) + ((nI (5)) * (nI (j5)))), .ref 16385] _ [] rfl trivial ?_
    refine AR.ald (n := 0) (e := (123 + (5 * j5))) ok_X5_whereNow_31 (by first | rfl | (simp only [nI_add, pk_mul]; first | done | rfl)) rfl (by omega) (by first | decide | omega) ?_
    refine AR.run g_X5_whereNow_32_1 33 [some (.ref 16384), some (.int (v)), some (.int (m)), some (.int (L_5whereNow_5 v m z j5)), some (.int (nI (j5))), some (.int ((nI (123)) + ((nI (5)) * (nI (j5)))))] [.int (m), .int (z (123 + (5 * j5)))] _ [] rfl trivial ?_
    refine AR.gt2 (tgt := 61) dc_X5_whereNow_33 (by decide) (fun c33_2 => ?_) (fun c33_2 => ?_)
    · refine AR.run g_X5_whereNow_61_4 5 [some (.ref 16384), some (.int (v)), some (.int (m)), some (.int (L_5whereNow_5 v m z j5)), some (.int ((nI (j5)) + (nI (1)))), some (.int ((nI (123)) + ((nI (5)) * (nI (j5)))))] [] _ [] rfl trivial ?_
      refine AR.drop (L' := [some (.ref 16384), some (.int (v)), some (.int (m)), some (.int (L_5whereNow_5 v m z j5)), some (.int ((nI (j5)) + (nI (1)))), none]) ⟨rfl, rfl, rfl, rfl, rfl, trivial⟩ ?_
      have e3 : L_5whereNow_5 v m z (j5 + 1) = (L_5whereNow_5 v m z j5) := by rw [L_5whereNow_5, B_5whereNow_5, if_pos c33_2]
      exact AR.cast (L' := [some (.ref 16384), some (.int (v)), some (.int (m)), some (.int (L_5whereNow_5 v m z (j5 + 1))), some (.int (nI (j5 + 1))), none]) (by rw [e3, nI_add]) rfl rfl (ih5 (by first | trivial | omega))
    · refine AR.run g_X5_whereNow_36_5 44 [some (.ref 16384), some (.int (v)), some (.int (m)), some (.int (L_5whereNow_5 v m z j5)), some (.int (nI (j5))), some (.int ((nI (123)) + ((nI (5)) * (nI (j5)))))] [.int (((nI (123)) + ((nI (5)) * (nI (j5)))) + (nI (2))), .ref 16385] _ [] rfl trivial ?_
      refine AR.ald (n := 0) (e := ((123 + (5 * j5)) + 2)) ok_X5_whereNow_44 (by first | rfl | (simp only [nI_add, pk_mul]; first | done | rfl)) rfl (by omega) (by first | decide | omega) ?_
      refine AR.run g_X5_whereNow_45_1 46 [some (.ref 16384), some (.int (v)), some (.int (m)), some (.int (L_5whereNow_5 v m z j5)), some (.int (nI (j5))), some (.int ((nI (123)) + ((nI (5)) * (nI (j5)))))] [.int (v), .int (z ((123 + (5 * j5)) + 2))] _ [] rfl trivial ?_
      refine AR.ne2 (tgt := 61) dc_X5_whereNow_46 (by decide) (fun c46_4 => ?_) (fun c46_4 => ?_)
      · refine AR.run g_X5_whereNow_61_4 5 [some (.ref 16384), some (.int (v)), some (.int (m)), some (.int (L_5whereNow_5 v m z j5)), some (.int ((nI (j5)) + (nI (1)))), some (.int ((nI (123)) + ((nI (5)) * (nI (j5)))))] [] _ [] rfl trivial ?_
        refine AR.drop (L' := [some (.ref 16384), some (.int (v)), some (.int (m)), some (.int (L_5whereNow_5 v m z j5)), some (.int ((nI (j5)) + (nI (1)))), none]) ⟨rfl, rfl, rfl, rfl, rfl, trivial⟩ ?_
        have e5 : L_5whereNow_5 v m z (j5 + 1) = (L_5whereNow_5 v m z j5) := by rw [L_5whereNow_5, B_5whereNow_5, if_neg c33_2, if_neg c46_4]
        exact AR.cast (L' := [some (.ref 16384), some (.int (v)), some (.int (m)), some (.int (L_5whereNow_5 v m z (j5 + 1))), some (.int (nI (j5 + 1))), none]) (by rw [e5, nI_add]) rfl rfl (ih5 (by first | trivial | omega))
      · refine AR.run g_X5_whereNow_49_5 57 [some (.ref 16384), some (.int (v)), some (.int (m)), some (.int (L_5whereNow_5 v m z j5)), some (.int (nI (j5))), some (.int ((nI (123)) + ((nI (5)) * (nI (j5)))))] [.int (((nI (123)) + ((nI (5)) * (nI (j5)))) + (nI (3))), .ref 16385] _ [] rfl trivial ?_
        refine AR.ald (n := 0) (e := ((123 + (5 * j5)) + 3)) ok_X5_whereNow_57 (by first | rfl | (simp only [nI_add, pk_mul]; first | done | rfl)) rfl (by omega) (by first | decide | omega) ?_
        refine AR.run g_X5_whereNow_58_4 5 [some (.ref 16384), some (.int (v)), some (.int (m)), some (.int (z ((123 + (5 * j5)) + 3))), some (.int ((nI (j5)) + (nI (1)))), some (.int ((nI (123)) + ((nI (5)) * (nI (j5)))))] [] _ [] rfl trivial ?_
        refine AR.drop (L' := [some (.ref 16384), some (.int (v)), some (.int (m)), some (.int (z ((123 + (5 * j5)) + 3))), some (.int ((nI (j5)) + (nI (1)))), none]) ⟨rfl, rfl, rfl, rfl, rfl, trivial⟩ ?_
        have e6 : L_5whereNow_5 v m z (j5 + 1) = (z ((123 + (5 * j5)) + 3)) := by rw [L_5whereNow_5, B_5whereNow_5, if_neg c33_2, if_pos c46_4]
        exact AR.cast (L' := [some (.ref 16384), some (.int (v)), some (.int (m)), some (.int (L_5whereNow_5 v m z (j5 + 1))), some (.int (nI (j5 + 1))), none]) (by rw [e6, nI_add]) rfl rfl (ih5 (by first | trivial | omega))
  · refine AR.run g_X5_whereNow_5_4 12 [some (.ref 16384), some (.int (v)), some (.int (m)), some (.int (L_5whereNow_5 v m z ne)), some (.int (nI (ne))), none] [.int (nI (5)), .ref 16385, .int (nI (ne))] _ [] rfl trivial ?_
    refine AR.ald (n := 0) (e := 5) ok_X5_whereNow_12 (by first | rfl | (simp only [nI_add, pk_mul]; first | done | rfl)) rfl (by omega) (by first | decide | omega) ?_
    refine AR.top hZ.2.2.2.1.1 ?_
    refine AR.ge2N (tgt := 69) (a := ne) (b := ne) dc_X5_whereNow_13 (by decide) (by first | rfl | (simp only [nI_add, pk_mul]; first | done | rfl)) (by first | rfl | (simp only [nI_add, pk_mul]; first | done | rfl)) (by omega) (by omega) (fun c13_7 => ?_) (fun c13_7 => absurd c13_7 (by omega))
    refine AR.run g_X5_whereNow_69_1 70 [some (.ref 16384), some (.int (v)), some (.int (m)), some (.int (L_5whereNow_5 v m z ne)), some (.int (nI (ne))), none] [.int (L_5whereNow_5 v m z ne)] _ [] rfl trivial ?_
    exact AR.retI dc_X5_whereNow_70 rfl rfl rfl
def F_5counted (w : Nat) (nv : Nat) (nc : Nat) (z : Nat → Int32) (sv : Int32) : Int32 := if w = 6 then (L_5overAll_4 2 z nv) else if w = 7 then (L_5overAll_4 w z nv) else if w = 8 then (L_5overAll_4 w z nv) else if w = 9 then (L_5overAll_4 w z nv) else if w = 10 then (L_5overAll_4 11 z nv) else if w = 11 then (z 6) else if w = 12 then (L_5free_4 nv z nc) else if w = 13 then sv else (z w)
theorem g_X5_counted_0_1 : ab_oks M_X5_counted [(0, .iload_n 1, 1, 1, 0, 0, .null)] = true := by decide +kernel
theorem dc_X5_counted_1 : decode (AM.bytes M_X5_counted) 1 = .ok (.tableswitch 84 6 13 #[47, 53, 53, 53, 59, 66, 74, 79], 47) := by decide +kernel
theorem g_X5_counted_48_2 : ab_oks M_X5_counted [(48, .aload_n 0, 1, 0, 0, 0, .null), (49, .iconst 2, 1, 0, 0, 0, .int (nI (2)))] = true := by decide +kernel
theorem lk_5_173 : ab_lkV "LeafCradlesModel" 173 M_X5_overAll 1 [1217, 1219, 69, 97, 1220] = true := by decide +kernel
theorem dc_X5_counted_50 : decode (AM.bytes M_X5_counted) 50 = .ok (.invokevirtual 173, 3) := by decide +kernel
theorem dc_X5_counted_53 : decode (AM.bytes M_X5_counted) 53 = .ok (.ireturn, 1) := by decide +kernel
theorem g_X5_counted_54_2 : ab_oks M_X5_counted [(54, .aload_n 0, 1, 0, 0, 0, .null), (55, .iload_n 1, 1, 1, 0, 0, .null)] = true := by decide +kernel
theorem dc_X5_counted_56 : decode (AM.bytes M_X5_counted) 56 = .ok (.invokevirtual 173, 3) := by decide +kernel
theorem dc_X5_counted_59 : decode (AM.bytes M_X5_counted) 59 = .ok (.ireturn, 1) := by decide +kernel
theorem g_X5_counted_60_2 : ab_oks M_X5_counted [(60, .aload_n 0, 1, 0, 0, 0, .null), (61, .bipush 11, 2, 0, 0, 0, .int (nI (11)))] = true := by decide +kernel
theorem dc_X5_counted_63 : decode (AM.bytes M_X5_counted) 63 = .ok (.invokevirtual 173, 3) := by decide +kernel
theorem dc_X5_counted_66 : decode (AM.bytes M_X5_counted) 66 = .ok (.ireturn, 1) := by decide +kernel
theorem g_X5_counted_67_3 : ab_oks M_X5_counted [(67, .aload_n 0, 1, 0, 0, 0, .null), (68, .getfield 7, 3, 5, 0, 930, .null), (71, .bipush 6, 2, 0, 0, 0, .int (nI (6)))] = true := by decide +kernel
theorem ok_X5_counted_73 : ab_ok M_X5_counted (73, .iaload, 1, 0, 0, 0, .null) = true := by decide +kernel
theorem dc_X5_counted_74 : decode (AM.bytes M_X5_counted) 74 = .ok (.ireturn, 1) := by decide +kernel
theorem g_X5_counted_75_1 : ab_oks M_X5_counted [(75, .aload_n 0, 1, 0, 0, 0, .null)] = true := by decide +kernel
theorem lk_5_176 : ab_lkV "LeafCradlesModel" 176 M_X5_free 0 [1221, 1223, 70, 97, 1224] = true := by decide +kernel
theorem dc_X5_counted_76 : decode (AM.bytes M_X5_counted) 76 = .ok (.invokevirtual 176, 3) := by decide +kernel
theorem dc_X5_counted_79 : decode (AM.bytes M_X5_counted) 79 = .ok (.ireturn, 1) := by decide +kernel
theorem g_X5_counted_80_2 : ab_oks M_X5_counted [(80, .aload_n 0, 1, 0, 0, 0, .null), (81, .getfield 48, 3, 5, 13, 943, .null)] = true := by decide +kernel
theorem dc_X5_counted_84 : decode (AM.bytes M_X5_counted) 84 = .ok (.ireturn, 1) := by decide +kernel
theorem g_X5_counted_85_3 : ab_oks M_X5_counted [(85, .aload_n 0, 1, 0, 0, 0, .null), (86, .getfield 7, 3, 5, 0, 930, .null), (89, .iload_n 1, 1, 1, 0, 0, .null)] = true := by decide +kernel
theorem ok_X5_counted_90 : ab_ok M_X5_counted (90, .iaload, 1, 0, 0, 0, .null) = true := by decide +kernel
theorem dc_X5_counted_91 : decode (AM.bytes M_X5_counted) 91 = .ok (.ireturn, 1) := by decide +kernel
set_option maxRecDepth 100000 in
set_option maxHeartbeats 4000000 in
theorem s_5counted {E : AE} (d : Nat) (w : Nat) {nv : Nat} {nc : Nat} {nr : Nat} {ne : Nat}  {o0 a0 t0 p0 u0 l0 : List AC} {z sa ro te fr to un ga pi be : Nat → Int32} {bm en sta sv ln th : Int32} {hh : Int64} (hZ : ZI z nv nc nr ne) (hw : w < 14) : CT E M_X5_counted (d + 5) [.ref 16384, .int (nI (w))] (hp o0 a0 t0 p0 (mo z sa ro te fr to un ga pi be bm en sta sv ln th hh) u0 l0) (.inl (some (.int (F_5counted w nv nc z sv)))) (hp o0 a0 t0 p0 (mo z sa ro te fr to un ga pi be bm en sta sv ln th hh) u0 l0) 0 0 := by
  obtain ⟨⟨hnv, h12⟩, ⟨hnc, h4⟩, ⟨hnr, h3⟩, ⟨hne, h60⟩, hLV⟩ := id hZ
  refine CT.of (L := [some (.ref 16384), some (.int (nI (w)))]) rfl rfl ?_
  refine AR.run g_X5_counted_0_1 1 [some (.ref 16384), some (.int (nI (w)))] [.int (nI (w))] _ [] rfl trivial ?_
  by_cases w1_1 : w = 6
  · refine AR.tswN (w := w) (tgt := 48) 6 dc_X5_counted_1 (by first | rfl | (simp only [nI_add, pk_mul]; first | done | rfl)) w1_1 (by decide) 0 (by decide) (by decide) rfl (by decide) ?_
    refine AR.run g_X5_counted_48_2 50 [some (.ref 16384), some (.int (nI (w)))] [.int (nI (2)), .ref 16384] _ [] rfl trivial ?_
    refine AR.callV1 (16384) [.int (nI (2))] [] lk_5_173 dc_X5_counted_50 rfl rfl (s_5overAll _ 2 (by assumption) (by omega)) (by first | rfl | (simp only [nI_add, pk_mul]; first | done | rfl)) rfl ?_
    have e2_0 : F_5counted w nv nc z sv = (L_5overAll_4 2 z nv) := by rw [F_5counted, if_pos w1_1]
    exact AR.retI dc_X5_counted_53 rfl e2_0.symm rfl
  · by_cases w1_3 : w = 7
    · refine AR.tswN (w := w) (tgt := 54) 7 dc_X5_counted_1 (by first | rfl | (simp only [nI_add, pk_mul]; first | done | rfl)) w1_3 (by decide) 1 (by decide) (by decide) rfl (by decide) ?_
      refine AR.run g_X5_counted_54_2 56 [some (.ref 16384), some (.int (nI (w)))] [.int (nI (w)), .ref 16384] _ [] rfl trivial ?_
      refine AR.callV1 (16384) [.int (nI (w))] [] lk_5_173 dc_X5_counted_56 rfl rfl (s_5overAll _ w (by assumption) (by omega)) (by first | rfl | (simp only [nI_add, pk_mul]; first | done | rfl)) rfl ?_
      have e4_0 : F_5counted w nv nc z sv = (L_5overAll_4 w z nv) := by rw [F_5counted, if_neg w1_1, if_pos w1_3]
      exact AR.retI dc_X5_counted_59 rfl e4_0.symm rfl
    · by_cases w1_5 : w = 8
      · refine AR.tswN (w := w) (tgt := 54) 8 dc_X5_counted_1 (by first | rfl | (simp only [nI_add, pk_mul]; first | done | rfl)) w1_5 (by decide) 2 (by decide) (by decide) rfl (by decide) ?_
        refine AR.run g_X5_counted_54_2 56 [some (.ref 16384), some (.int (nI (w)))] [.int (nI (w)), .ref 16384] _ [] rfl trivial ?_
        refine AR.callV1 (16384) [.int (nI (w))] [] lk_5_173 dc_X5_counted_56 rfl rfl (s_5overAll _ w (by assumption) (by omega)) (by first | rfl | (simp only [nI_add, pk_mul]; first | done | rfl)) rfl ?_
        have e6_0 : F_5counted w nv nc z sv = (L_5overAll_4 w z nv) := by rw [F_5counted, if_neg w1_1, if_neg w1_3, if_pos w1_5]
        exact AR.retI dc_X5_counted_59 rfl e6_0.symm rfl
      · by_cases w1_7 : w = 9
        · refine AR.tswN (w := w) (tgt := 54) 9 dc_X5_counted_1 (by first | rfl | (simp only [nI_add, pk_mul]; first | done | rfl)) w1_7 (by decide) 3 (by decide) (by decide) rfl (by decide) ?_
          refine AR.run g_X5_counted_54_2 56 [some (.ref 16384), some (.int (nI (w)))] [.int (nI (w)), .ref 16384] _ [] rfl trivial ?_
          refine AR.callV1 (16384) [.int (nI (w))] [] lk_5_173 dc_X5_counted_56 rfl rfl (s_5overAll _ w (by assumption) (by omega)) (by first | rfl | (simp only [nI_add, pk_mul]; first | done | rfl)) rfl ?_
          have e8_0 : F_5counted w nv nc z sv = (L_5overAll_4 w z nv) := by rw [F_5counted, if_neg w1_1, if_neg w1_3, if_neg w1_5, if_pos w1_7]
          exact AR.retI dc_X5_counted_59 rfl e8_0.symm rfl
        · by_cases w1_9 : w = 10
          · refine AR.tswN (w := w) (tgt := 60) 10 dc_X5_counted_1 (by first | rfl | (simp only [nI_add, pk_mul]; first | done | rfl)) w1_9 (by decide) 4 (by decide) (by decide) rfl (by decide) ?_
            refine AR.run g_X5_counted_60_2 63 [some (.ref 16384), some (.int (nI (w)))] [.int (nI (11)), .ref 16384] _ [] rfl trivial ?_
            refine AR.callV1 (16384) [.int (nI (11))] [] lk_5_173 dc_X5_counted_63 rfl rfl (s_5overAll _ 11 (by assumption) (by omega)) (by first | rfl | (simp only [nI_add, pk_mul]; first | done | rfl)) rfl ?_
            have e10_0 : F_5counted w nv nc z sv = (L_5overAll_4 11 z nv) := by rw [F_5counted, if_neg w1_1, if_neg w1_3, if_neg w1_5, if_neg w1_7, if_pos w1_9]
            exact AR.retI dc_X5_counted_66 rfl e10_0.symm rfl
          · by_cases w1_11 : w = 11
            · refine AR.tswN (w := w) (tgt := 67) 11 dc_X5_counted_1 (by first | rfl | (simp only [nI_add, pk_mul]; first | done | rfl)) w1_11 (by decide) 5 (by decide) (by decide) rfl (by decide) ?_
              refine AR.run g_X5_counted_67_3 73 [some (.ref 16384), some (.int (nI (w)))] [.int (nI (6)), .ref 16385] _ [] rfl trivial ?_
              refine AR.ald (n := 0) (e := 6) ok_X5_counted_73 (by first | rfl | (simp only [nI_add, pk_mul]; first | done | rfl)) rfl (by omega) (by first | decide | omega) ?_
              have e12_0 : F_5counted w nv nc z sv = (z 6) := by rw [F_5counted, if_neg w1_1, if_neg w1_3, if_neg w1_5, if_neg w1_7, if_neg w1_9, if_pos w1_11]
              exact AR.retI dc_X5_counted_74 rfl e12_0.symm rfl
            · by_cases w1_13 : w = 12
              · refine AR.tswN (w := w) (tgt := 75) 12 dc_X5_counted_1 (by first | rfl | (simp only [nI_add, pk_mul]; first | done | rfl)) w1_13 (by decide) 6 (by decide) (by decide) rfl (by decide) ?_
                refine AR.run g_X5_counted_75_1 76 [some (.ref 16384), some (.int (nI (w)))] [.ref 16384] _ [] rfl trivial ?_
                refine AR.callV1 (16384) [] [] lk_5_176 dc_X5_counted_76 rfl rfl (s_5free _  (by assumption)) (by first | rfl | (simp only [nI_add, pk_mul]; first | done | rfl)) rfl ?_
                have e14_0 : F_5counted w nv nc z sv = (L_5free_4 nv z nc) := by rw [F_5counted, if_neg w1_1, if_neg w1_3, if_neg w1_5, if_neg w1_7, if_neg w1_9, if_neg w1_11, if_pos w1_13]
                exact AR.retI dc_X5_counted_79 rfl e14_0.symm rfl
              · by_cases w1_15 : w = 13
                · refine AR.tswN (w := w) (tgt := 80) 13 dc_X5_counted_1 (by first | rfl | (simp only [nI_add, pk_mul]; first | done | rfl)) w1_15 (by decide) 7 (by decide) (by decide) rfl (by decide) ?_
                  refine AR.run g_X5_counted_80_2 84 [some (.ref 16384), some (.int (nI (w)))] [.int (sv)] _ [] rfl trivial ?_
                  have e16_0 : F_5counted w nv nc z sv = sv := by rw [F_5counted, if_neg w1_1, if_neg w1_3, if_neg w1_5, if_neg w1_7, if_neg w1_9, if_neg w1_11, if_neg w1_13, if_pos w1_15]
                  exact AR.retI dc_X5_counted_84 rfl e16_0.symm rfl
                · refine AR.tswdN (w := w) (tgt := 85) dc_X5_counted_1 (by first | rfl | (simp only [nI_add, pk_mul]; first | done | rfl)) (by omega) (by omega) (by decide) ?_
                  refine AR.run g_X5_counted_85_3 90 [some (.ref 16384), some (.int (nI (w)))] [.int (nI (w)), .ref 16385] _ [] rfl trivial ?_
                  refine AR.ald (n := 0) (e := w) ok_X5_counted_90 (by first | rfl | (simp only [nI_add, pk_mul]; first | done | rfl)) rfl (by omega) (by first | decide | omega) ?_
                  have e17_0 : F_5counted w nv nc z sv = (z w) := by rw [F_5counted, if_neg w1_1, if_neg w1_3, if_neg w1_5, if_neg w1_7, if_neg w1_9, if_neg w1_11, if_neg w1_13, if_neg w1_15]
                  exact AR.retI dc_X5_counted_91 rfl e17_0.symm rfl
def B_5isAny_4 (nv : Nat) (z : Nat → Int32) (j4 : Nat) (x4_1 : Int32) : (Int32) := if x4_1 = 0 then if (oI (vo z (nI (j4)) nv)) = (-1) then (nI (0)) else if (z (95 + 4 * j4 + 1)) < (z (11 + 7 * (voG z (nI (j4)) nv) + 3)) then (nI (0)) else if (oI (nlO z (voG z (nI (j4)) nv) (lv z (voG z (nI (j4)) nv)))) = (-1) then (nI (0)) else (nI (1)) else (nI (1))
def L_5isAny_4 (nv : Nat) (z : Nat → Int32) : Nat → (Int32)
  | 0 => nI (0)
  | j + 1 => B_5isAny_4 nv z j (L_5isAny_4 nv z  j)
theorem g_X5_isAny_0_4 : ab_oks M_X5_isAny [(0, .iconst 0, 1, 0, 0, 0, .int (nI (0))), (1, .istore_n 1, 1, 1, 0, 0, .null), (2, .iconst 0, 1, 0, 0, 0, .int (nI (0))), (3, .istore_n 2, 1, 2, 0, 0, .null)] = true := by decide +kernel
theorem g_X5_isAny_4_4 : ab_oks M_X5_isAny [(4, .iload_n 2, 1, 2, 0, 0, .null), (5, .aload_n 0, 1, 0, 0, 0, .null), (6, .getfield 7, 3, 5, 0, 930, .null), (9, .iconst 1, 1, 0, 0, 0, .int (nI (1)))] = true := by decide +kernel
theorem ok_X5_isAny_10 : ab_ok M_X5_isAny (10, .iaload, 1, 0, 0, 0, .null) = true := by decide +kernel
theorem dc_X5_isAny_11 : decode (AM.bytes M_X5_isAny) 11 = .ok (.if_icmp .ge 54, 3) := by decide +kernel
theorem g_X5_isAny_14_2 : ab_oks M_X5_isAny [(14, .aload_n 0, 1, 0, 0, 0, .null), (15, .iload_n 2, 1, 2, 0, 0, .null)] = true := by decide +kernel
theorem dc_X5_isAny_16 : decode (AM.bytes M_X5_isAny) 16 = .ok (.invokevirtual 69, 3) := by decide +kernel
theorem g_X5_isAny_19_2 : ab_oks M_X5_isAny [(19, .istore_n 3, 1, 3, 0, 0, .null), (20, .iload_n 1, 1, 1, 0, 0, .null)] = true := by decide +kernel
theorem dc_X5_isAny_21 : decode (AM.bytes M_X5_isAny) 21 = .ok (.ifCond .ne 32, 3) := by decide +kernel
theorem g_X5_isAny_53_5 : ab_oks M_X5_isAny [(53, .iconst 1, 1, 0, 0, 0, .int (nI (1))), (54, .goto 4, 3, 58, 0, 0, .null), (58, .istore_n 1, 1, 1, 0, 0, .null), (59, .iinc 2 1, 3, 2, 0, 0, .int (nI (1))), (62, .goto (-58), 3, 4, 0, 0, .null)] = true := by decide +kernel
theorem g_X5_isAny_24_2 : ab_oks M_X5_isAny [(24, .iload_n 3, 1, 3, 0, 0, .null), (25, .iconst (-1), 1, 0, 0, 0, .int (-1))] = true := by decide +kernel
theorem dc_X5_isAny_26 : decode (AM.bytes M_X5_isAny) 26 = .ok (.if_icmp .eq 31, 3) := by decide +kernel
theorem g_X5_isAny_57_4 : ab_oks M_X5_isAny [(57, .iconst 0, 1, 0, 0, 0, .int (nI (0))), (58, .istore_n 1, 1, 1, 0, 0, .null), (59, .iinc 2 1, 3, 2, 0, 0, .int (nI (1))), (62, .goto (-58), 3, 4, 0, 0, .null)] = true := by decide +kernel
theorem g_X5_isAny_29_3 : ab_oks M_X5_isAny [(29, .aload_n 0, 1, 0, 0, 0, .null), (30, .iload_n 3, 1, 3, 0, 0, .null), (31, .iconst 3, 1, 0, 0, 0, .int (nI (3)))] = true := by decide +kernel
theorem dc_X5_isAny_32 : decode (AM.bytes M_X5_isAny) 32 = .ok (.invokevirtual 62, 3) := by decide +kernel
theorem g_X5_isAny_35_3 : ab_oks M_X5_isAny [(35, .aload_n 0, 1, 0, 0, 0, .null), (36, .iload_n 2, 1, 2, 0, 0, .null), (37, .iconst 1, 1, 0, 0, 0, .int (nI (1)))] = true := by decide +kernel
theorem dc_X5_isAny_38 : decode (AM.bytes M_X5_isAny) 38 = .ok (.invokevirtual 72, 3) := by decide +kernel
theorem dc_X5_isAny_41 : decode (AM.bytes M_X5_isAny) 41 = .ok (.if_icmp .gt 16, 3) := by decide +kernel
theorem g_X5_isAny_44_2 : ab_oks M_X5_isAny [(44, .aload_n 0, 1, 0, 0, 0, .null), (45, .iload_n 3, 1, 3, 0, 0, .null)] = true := by decide +kernel
theorem dc_X5_isAny_46 : decode (AM.bytes M_X5_isAny) 46 = .ok (.invokevirtual 75, 3) := by decide +kernel
theorem g_X5_isAny_49_1 : ab_oks M_X5_isAny [(49, .iconst (-1), 1, 0, 0, 0, .int (-1))] = true := by decide +kernel
theorem dc_X5_isAny_50 : decode (AM.bytes M_X5_isAny) 50 = .ok (.if_icmp .eq 7, 3) := by decide +kernel
theorem g_X5_isAny_65_1 : ab_oks M_X5_isAny [(65, .iload_n 1, 1, 1, 0, 0, .null)] = true := by decide +kernel
theorem dc_X5_isAny_66 : decode (AM.bytes M_X5_isAny) 66 = .ok (.ireturn, 1) := by decide +kernel
set_option maxRecDepth 100000 in
set_option maxHeartbeats 4000000 in
theorem s_5isAny {E : AE} (d : Nat) {nv : Nat} {nc : Nat} {nr : Nat} {ne : Nat}  {o0 a0 t0 p0 u0 l0 : List AC} {z sa ro te fr to un ga pi be : Nat → Int32} {bm en sta sv ln th : Int32} {hh : Int64} (hZ : ZI z nv nc nr ne) : CT E M_X5_isAny (d + 2) [.ref 16384] (hp o0 a0 t0 p0 (mo z sa ro te fr to un ga pi be bm en sta sv ln th hh) u0 l0) (.inl (some (.int (L_5isAny_4 nv z nc)))) (hp o0 a0 t0 p0 (mo z sa ro te fr to un ga pi be bm en sta sv ln th hh) u0 l0) 0 0 := by
  obtain ⟨⟨hnv, h12⟩, ⟨hnc, h4⟩, ⟨hnr, h3⟩, ⟨hne, h60⟩, hLV⟩ := id hZ
  refine CT.of (L := [some (.ref 16384), none, none, none]) rfl rfl ?_
  refine AR.run g_X5_isAny_0_4 4 [some (.ref 16384), some (.int (nI (0))), some (.int (nI (0))), none] [] _ [] rfl trivial ?_
  refine AR.cast (L' := [some (.ref 16384), some (.int (L_5isAny_4 nv z 0)), some (.int (nI (0))), none]) (by first | rfl | (rw [L_5isAny_4])) rfl rfl (AR.loopN nc (fun j4 => [some (.ref 16384), some (.int (L_5isAny_4 nv z j4)), some (.int (nI (j4))), none]) (fun j4 => (hp o0 a0 t0 p0 (mo z sa ro te fr to un ga pi be bm en sta sv ln th hh) u0 l0)) (fun j4 => (L_5isAny_4 nv z j4 = 0 ∨ L_5isAny_4 nv z j4 = 1)) (fun j4 hj4 hI4 ih4 => ?_) (fun hI4 => ?_) 0 (by omega) (Or.inl rfl))
  · refine AR.run g_X5_isAny_4_4 10 [some (.ref 16384), some (.int (L_5isAny_4 nv z j4)), some (.int (nI (j4))), none] [.int (nI (1)), .ref 16385, .int (nI (j4))] _ [] rfl trivial ?_
    refine AR.ald (n := 0) (e := 1) ok_X5_isAny_10 (by first | rfl | (simp only [nI_add, pk_mul]; first | done | rfl)) rfl (by omega) (by first | decide | omega) ?_
    refine AR.top hZ.2.1.1 ?_
    refine AR.ge2N (tgt := 65) (a := j4) (b := nc) dc_X5_isAny_11 (by decide) (by first | rfl | (simp only [nI_add, pk_mul]; first | done | rfl)) (by first | rfl | (simp only [nI_add, pk_mul]; first | done | rfl)) (by omega) (by omega) (fun c11_1 => absurd c11_1 (by omega)) (fun c11_1 => ?_)
    refine AR.run g_X5_isAny_14_2 16 [some (.ref 16384), some (.int (L_5isAny_4 nv z j4)), some (.int (nI (j4))), none] [.int (nI (j4)), .ref 16384] _ [] rfl trivial ?_
    refine AR.callV1 (16384) [.int (nI (j4))] [] lk_5_69 dc_X5_isAny_16 rfl rfl (s_volumeOn _ (nI (j4)) hZ.1.1 hZ.1.2) (by first | rfl | (simp only [nI_add, pk_mul]; first | done | rfl)) rfl ?_
    refine AR.run g_X5_isAny_19_2 21 [some (.ref 16384), some (.int (L_5isAny_4 nv z j4)), some (.int (nI (j4))), some (.int (oI (vo z (nI (j4)) nv)))] [.int (L_5isAny_4 nv z j4)] _ [] rfl trivial ?_
    refine AR.ne (tgt := 53) dc_X5_isAny_21 (by decide) (fun c21_2 => ?_) (fun c21_2 => ?_)
    · refine AR.run g_X5_isAny_53_5 4 [some (.ref 16384), some (.int (nI (1))), some (.int ((nI (j4)) + (nI (1)))), some (.int (oI (vo z (nI (j4)) nv)))] [] _ [] rfl trivial ?_
      refine AR.drop (L' := [some (.ref 16384), some (.int (nI (1))), some (.int ((nI (j4)) + (nI (1)))), none]) ⟨rfl, rfl, rfl, trivial⟩ ?_
      have e3 : L_5isAny_4 nv z (j4 + 1) = (nI (1)) := by rw [L_5isAny_4, B_5isAny_4, if_neg c21_2]
      exact AR.cast (L' := [some (.ref 16384), some (.int (L_5isAny_4 nv z (j4 + 1))), some (.int (nI (j4 + 1))), none]) (by rw [e3, nI_add]) rfl rfl (ih4 (by rw [e3]; first | exact Or.inl rfl | exact Or.inr rfl))
    · refine AR.run g_X5_isAny_24_2 26 [some (.ref 16384), some (.int (L_5isAny_4 nv z j4)), some (.int (nI (j4))), some (.int (oI (vo z (nI (j4)) nv)))] [.int (-1), .int (oI (vo z (nI (j4)) nv))] _ [] rfl trivial ?_
      refine AR.eq2 (tgt := 57) dc_X5_isAny_26 (by decide) (fun c26_4 => ?_) (fun c26_4 => ?_)
      · refine AR.run g_X5_isAny_57_4 4 [some (.ref 16384), some (.int (nI (0))), some (.int ((nI (j4)) + (nI (1)))), some (.int (oI (vo z (nI (j4)) nv)))] [] _ [] rfl trivial ?_
        refine AR.drop (L' := [some (.ref 16384), some (.int (nI (0))), some (.int ((nI (j4)) + (nI (1)))), none]) ⟨rfl, rfl, rfl, trivial⟩ ?_
        have e5 : L_5isAny_4 nv z (j4 + 1) = (nI (0)) := by rw [L_5isAny_4, B_5isAny_4, if_pos c21_2, if_pos c26_4]
        exact AR.cast (L' := [some (.ref 16384), some (.int (L_5isAny_4 nv z (j4 + 1))), some (.int (nI (j4 + 1))), none]) (by rw [e5, nI_add]) rfl rfl (ih4 (by rw [e5]; first | exact Or.inl rfl | exact Or.inr rfl))
      · obtain ⟨hx6, hy6⟩ := vo_get (by assumption)
        refine AR.cast (L' := [some (.ref 16384), some (.int (L_5isAny_4 nv z j4)), some (.int (nI (j4))), some (.int (nI ((voG z (nI (j4)) nv))))]) (st' := []) (by rw [hx6]; rfl) rfl rfl ?_
        refine AR.run g_X5_isAny_29_3 32 [some (.ref 16384), some (.int (L_5isAny_4 nv z j4)), some (.int (nI (j4))), some (.int (nI ((voG z (nI (j4)) nv))))] [.int (nI (3)), .int (nI ((voG z (nI (j4)) nv))), .ref 16384] _ [] rfl trivial ?_
        refine AR.callV1 (16384) [.int (nI ((voG z (nI (j4)) nv))), .int (nI (3))] [] lk_5_62 dc_X5_isAny_32 rfl rfl (s_ofVolume _ (voG z (nI (j4)) nv) 3 (by omega) (by omega)) (by first | rfl | (simp only [nI_add, pk_mul]; first | done | rfl)) rfl ?_
        refine AR.run g_X5_isAny_35_3 38 [some (.ref 16384), some (.int (L_5isAny_4 nv z j4)), some (.int (nI (j4))), some (.int (nI ((voG z (nI (j4)) nv))))] [.int (nI (1)), .int (nI (j4)), .ref 16384, .int (z (11 + 7 * (voG z (nI (j4)) nv) + 3))] _ [] rfl trivial ?_
        refine AR.callV1 (16384) [.int (nI (j4)), .int (nI (1))] [.int (z (11 + 7 * (voG z (nI (j4)) nv) + 3))] lk_5_72 dc_X5_isAny_38 rfl rfl (s_ofCradle _ j4 1 (by omega) (by omega)) (by first | rfl | (simp only [nI_add, pk_mul]; first | done | rfl)) rfl ?_
        refine AR.gt2 (tgt := 57) dc_X5_isAny_41 (by decide) (fun c41_7 => ?_) (fun c41_7 => ?_)
        · refine AR.run g_X5_isAny_57_4 4 [some (.ref 16384), some (.int (nI (0))), some (.int ((nI (j4)) + (nI (1)))), some (.int (nI ((voG z (nI (j4)) nv))))] [] _ [] rfl trivial ?_
          refine AR.drop (L' := [some (.ref 16384), some (.int (nI (0))), some (.int ((nI (j4)) + (nI (1)))), none]) ⟨rfl, rfl, rfl, trivial⟩ ?_
          have e8 : L_5isAny_4 nv z (j4 + 1) = (nI (0)) := by rw [L_5isAny_4, B_5isAny_4, if_pos c21_2, if_neg c26_4, if_pos c41_7]
          exact AR.cast (L' := [some (.ref 16384), some (.int (L_5isAny_4 nv z (j4 + 1))), some (.int (nI (j4 + 1))), none]) (by rw [e8, nI_add]) rfl rfl (ih4 (by rw [e8]; first | exact Or.inl rfl | exact Or.inr rfl))
        · refine AR.run g_X5_isAny_44_2 46 [some (.ref 16384), some (.int (L_5isAny_4 nv z j4)), some (.int (nI (j4))), some (.int (nI ((voG z (nI (j4)) nv))))] [.int (nI ((voG z (nI (j4)) nv))), .ref 16384] _ [] rfl trivial ?_
          refine AR.callV1 (16384) [.int (nI ((voG z (nI (j4)) nv)))] [] lk_5_75 dc_X5_isAny_46 rfl rfl (s_nextLeaf _ (voG z (nI (j4)) nv) (by omega) (by first | assumption | exact (hLV (voG z (nI (j4)) nv) (by omega)).1) (by first | assumption | exact (hLV (voG z (nI (j4)) nv) (by omega)).2)) (by first | rfl | (simp only [nI_add, pk_mul]; first | done | rfl)) rfl ?_
          refine AR.run g_X5_isAny_49_1 50 [some (.ref 16384), some (.int (L_5isAny_4 nv z j4)), some (.int (nI (j4))), some (.int (nI ((voG z (nI (j4)) nv))))] [.int (-1), .int (oI (nlO z (voG z (nI (j4)) nv) (lv z (voG z (nI (j4)) nv))))] _ [] rfl trivial ?_
          refine AR.eq2 (tgt := 57) dc_X5_isAny_50 (by decide) (fun c50_9 => ?_) (fun c50_9 => ?_)
          · refine AR.run g_X5_isAny_57_4 4 [some (.ref 16384), some (.int (nI (0))), some (.int ((nI (j4)) + (nI (1)))), some (.int (nI ((voG z (nI (j4)) nv))))] [] _ [] rfl trivial ?_
            refine AR.drop (L' := [some (.ref 16384), some (.int (nI (0))), some (.int ((nI (j4)) + (nI (1)))), none]) ⟨rfl, rfl, rfl, trivial⟩ ?_
            have e10 : L_5isAny_4 nv z (j4 + 1) = (nI (0)) := by rw [L_5isAny_4, B_5isAny_4, if_pos c21_2, if_neg c26_4, if_neg c41_7, if_pos c50_9]
            exact AR.cast (L' := [some (.ref 16384), some (.int (L_5isAny_4 nv z (j4 + 1))), some (.int (nI (j4 + 1))), none]) (by rw [e10, nI_add]) rfl rfl (ih4 (by rw [e10]; first | exact Or.inl rfl | exact Or.inr rfl))
          · refine AR.run g_X5_isAny_53_5 4 [some (.ref 16384), some (.int (nI (1))), some (.int ((nI (j4)) + (nI (1)))), some (.int (nI ((voG z (nI (j4)) nv))))] [] _ [] rfl trivial ?_
            refine AR.drop (L' := [some (.ref 16384), some (.int (nI (1))), some (.int ((nI (j4)) + (nI (1)))), none]) ⟨rfl, rfl, rfl, trivial⟩ ?_
            have e11 : L_5isAny_4 nv z (j4 + 1) = (nI (1)) := by rw [L_5isAny_4, B_5isAny_4, if_pos c21_2, if_neg c26_4, if_neg c41_7, if_neg c50_9]
            exact AR.cast (L' := [some (.ref 16384), some (.int (L_5isAny_4 nv z (j4 + 1))), some (.int (nI (j4 + 1))), none]) (by rw [e11, nI_add]) rfl rfl (ih4 (by rw [e11]; first | exact Or.inl rfl | exact Or.inr rfl))
  · refine AR.run g_X5_isAny_4_4 10 [some (.ref 16384), some (.int (L_5isAny_4 nv z nc)), some (.int (nI (nc))), none] [.int (nI (1)), .ref 16385, .int (nI (nc))] _ [] rfl trivial ?_
    refine AR.ald (n := 0) (e := 1) ok_X5_isAny_10 (by first | rfl | (simp only [nI_add, pk_mul]; first | done | rfl)) rfl (by omega) (by first | decide | omega) ?_
    refine AR.top hZ.2.1.1 ?_
    refine AR.ge2N (tgt := 65) (a := nc) (b := nc) dc_X5_isAny_11 (by decide) (by first | rfl | (simp only [nI_add, pk_mul]; first | done | rfl)) (by first | rfl | (simp only [nI_add, pk_mul]; first | done | rfl)) (by omega) (by omega) (fun c11_12 => ?_) (fun c11_12 => absurd c11_12 (by omega))
    refine AR.run g_X5_isAny_65_1 66 [some (.ref 16384), some (.int (L_5isAny_4 nv z nc)), some (.int (nI (nc))), none] [.int (L_5isAny_4 nv z nc)] _ [] rfl trivial ?_
    exact AR.retZ dc_X5_isAny_66 rfl hI4 rfl rfl
def B_5quickestNow_4 (v : Nat) (z : Nat → Int32) (j4 : Nat) (x4_2 : Int32) : (Int32) := if (z (111 + 4 * j4 + 1)) = 0 then if x4_2 = (-1) then (nI (j4)) else if (wayZ z v (x4_2.toNatClampNeg)) ≤ (wayZ z v j4) then (nI (x4_2.toNatClampNeg)) else (nI (j4)) else x4_2
def L_5quickestNow_4 (v : Nat) (z : Nat → Int32) : Nat → (Int32)
  | 0 => -1
  | j + 1 => B_5quickestNow_4 v z j (L_5quickestNow_4 v z  j)
theorem g_X5_quickestNow_0_4 : ab_oks M_X5_quickestNow [(0, .iconst (-1), 1, 0, 0, 0, .int (-1)), (1, .istore_n 2, 1, 2, 0, 0, .null), (2, .iconst 0, 1, 0, 0, 0, .int (nI (0))), (3, .istore_n 3, 1, 3, 0, 0, .null)] = true := by decide +kernel
theorem g_X5_quickestNow_4_4 : ab_oks M_X5_quickestNow [(4, .iload_n 3, 1, 3, 0, 0, .null), (5, .aload_n 0, 1, 0, 0, 0, .null), (6, .getfield 7, 3, 5, 0, 930, .null), (9, .iconst 2, 1, 0, 0, 0, .int (nI (2)))] = true := by decide +kernel
theorem ok_X5_quickestNow_10 : ab_ok M_X5_quickestNow (10, .iaload, 1, 0, 0, 0, .null) = true := by decide +kernel
theorem dc_X5_quickestNow_11 : decode (AM.bytes M_X5_quickestNow) 11 = .ok (.if_icmp .ge 56, 3) := by decide +kernel
theorem g_X5_quickestNow_14_3 : ab_oks M_X5_quickestNow [(14, .aload_n 0, 1, 0, 0, 0, .null), (15, .iload_n 3, 1, 3, 0, 0, .null), (16, .iconst 1, 1, 0, 0, 0, .int (nI (1)))] = true := by decide +kernel
theorem dc_X5_quickestNow_17 : decode (AM.bytes M_X5_quickestNow) 17 = .ok (.invokevirtual 58, 3) := by decide +kernel
theorem dc_X5_quickestNow_20 : decode (AM.bytes M_X5_quickestNow) 20 = .ok (.ifCond .ne 7, 3) := by decide +kernel
theorem g_X5_quickestNow_27_3 : ab_oks M_X5_quickestNow [(27, .iconst 0, 1, 0, 0, 0, .int (nI (0))), (28, .istore 4, 2, 4, 0, 0, .null), (30, .iload 4, 2, 4, 0, 0, .null)] = true := by decide +kernel
theorem dc_X5_quickestNow_32 : decode (AM.bytes M_X5_quickestNow) 32 = .ok (.ifCond .eq 27, 3) := by decide +kernel
theorem g_X5_quickestNow_59_4 : ab_oks M_X5_quickestNow [(59, .iload_n 2, 1, 2, 0, 0, .null), (60, .istore_n 2, 1, 2, 0, 0, .null), (61, .iinc 3 1, 3, 3, 0, 0, .int (nI (1))), (64, .goto (-60), 3, 4, 0, 0, .null)] = true := by decide +kernel
theorem g_X5_quickestNow_23_4 : ab_oks M_X5_quickestNow [(23, .iconst 1, 1, 0, 0, 0, .int (nI (1))), (24, .goto 4, 3, 28, 0, 0, .null), (28, .istore 4, 2, 4, 0, 0, .null), (30, .iload 4, 2, 4, 0, 0, .null)] = true := by decide +kernel
theorem g_X5_quickestNow_35_2 : ab_oks M_X5_quickestNow [(35, .iload_n 2, 1, 2, 0, 0, .null), (36, .iconst (-1), 1, 0, 0, 0, .int (-1))] = true := by decide +kernel
theorem dc_X5_quickestNow_37 : decode (AM.bytes M_X5_quickestNow) 37 = .ok (.if_icmp .eq 18, 3) := by decide +kernel
theorem g_X5_quickestNow_55_5 : ab_oks M_X5_quickestNow [(55, .iload_n 3, 1, 3, 0, 0, .null), (56, .goto 4, 3, 60, 0, 0, .null), (60, .istore_n 2, 1, 2, 0, 0, .null), (61, .iinc 3 1, 3, 3, 0, 0, .int (nI (1))), (64, .goto (-60), 3, 4, 0, 0, .null)] = true := by decide +kernel
theorem g_X5_quickestNow_40_3 : ab_oks M_X5_quickestNow [(40, .aload_n 0, 1, 0, 0, 0, .null), (41, .iload_n 1, 1, 1, 0, 0, .null), (42, .iload_n 3, 1, 3, 0, 0, .null)] = true := by decide +kernel
theorem lk_5_82 : ab_lkV "LeafCradlesModel" 82 M_X5_way 2 [1069, 1071, 47, 97, 1072] = true := by decide +kernel
theorem dc_X5_quickestNow_43 : decode (AM.bytes M_X5_quickestNow) 43 = .ok (.invokevirtual 82, 3) := by decide +kernel
theorem g_X5_quickestNow_46_3 : ab_oks M_X5_quickestNow [(46, .aload_n 0, 1, 0, 0, 0, .null), (47, .iload_n 1, 1, 1, 0, 0, .null), (48, .iload_n 2, 1, 2, 0, 0, .null)] = true := by decide +kernel
theorem dc_X5_quickestNow_49 : decode (AM.bytes M_X5_quickestNow) 49 = .ok (.invokevirtual 82, 3) := by decide +kernel
theorem dc_X5_quickestNow_52 : decode (AM.bytes M_X5_quickestNow) 52 = .ok (.if_icmp .ge 7, 3) := by decide +kernel
theorem g_X5_quickestNow_67_1 : ab_oks M_X5_quickestNow [(67, .iload_n 2, 1, 2, 0, 0, .null)] = true := by decide +kernel
theorem dc_X5_quickestNow_68 : decode (AM.bytes M_X5_quickestNow) 68 = .ok (.ireturn, 1) := by decide +kernel
set_option maxRecDepth 100000 in
set_option maxHeartbeats 4000000 in
theorem s_5quickestNow {E : AE} (d : Nat) (v : Nat) {nv : Nat} {nc : Nat} {nr : Nat} {ne : Nat}  {o0 a0 t0 p0 u0 l0 : List AC} {z sa ro te fr to un ga pi be : Nat → Int32} {bm en sta sv ln th : Int32} {hh : Int64} (hZ : ZI z nv nc nr ne) (hv : v < nv) : CT E M_X5_quickestNow (d + 2) [.ref 16384, .int (nI (v))] (hp o0 a0 t0 p0 (mo z sa ro te fr to un ga pi be bm en sta sv ln th hh) u0 l0) (.inl (some (.int (L_5quickestNow_4 v z nr)))) (hp o0 a0 t0 p0 (mo z sa ro te fr to un ga pi be bm en sta sv ln th hh) u0 l0) 0 0 := by
  obtain ⟨⟨hnv, h12⟩, ⟨hnc, h4⟩, ⟨hnr, h3⟩, ⟨hne, h60⟩, hLV⟩ := id hZ
  refine CT.of (L := [some (.ref 16384), some (.int (nI (v))), none, none, none]) rfl rfl ?_
  refine AR.run g_X5_quickestNow_0_4 4 [some (.ref 16384), some (.int (nI (v))), some (.int (-1)), some (.int (nI (0))), none] [] _ [] rfl trivial ?_
  refine AR.cast (L' := [some (.ref 16384), some (.int (nI (v))), some (.int (L_5quickestNow_4 v z 0)), some (.int (nI (0))), none]) (by first | rfl | (rw [L_5quickestNow_4])) rfl rfl (AR.loopN nr (fun j4 => [some (.ref 16384), some (.int (nI (v))), some (.int (L_5quickestNow_4 v z j4)), some (.int (nI (j4))), none]) (fun j4 => (hp o0 a0 t0 p0 (mo z sa ro te fr to un ga pi be bm en sta sv ln th hh) u0 l0)) (fun j4 => QI 3 (L_5quickestNow_4 v z j4)) (fun j4 hj4 hI4 ih4 => ?_) (fun hI4 => ?_) 0 (by omega) (Or.inl rfl))
  · refine AR.run g_X5_quickestNow_4_4 10 [some (.ref 16384), some (.int (nI (v))), some (.int (L_5quickestNow_4 v z j4)), some (.int (nI (j4))), none] [.int (nI (2)), .ref 16385, .int (nI (j4))] _ [] rfl trivial ?_
    refine AR.ald (n := 0) (e := 2) ok_X5_quickestNow_10 (by first | rfl | (simp only [nI_add, pk_mul]; first | done | rfl)) rfl (by omega) (by first | decide | omega) ?_
    refine AR.top hZ.2.2.1.1 ?_
    refine AR.ge2N (tgt := 67) (a := j4) (b := nr) dc_X5_quickestNow_11 (by decide) (by first | rfl | (simp only [nI_add, pk_mul]; first | done | rfl)) (by first | rfl | (simp only [nI_add, pk_mul]; first | done | rfl)) (by omega) (by omega) (fun c11_1 => absurd c11_1 (by omega)) (fun c11_1 => ?_)
    refine AR.run g_X5_quickestNow_14_3 17 [some (.ref 16384), some (.int (nI (v))), some (.int (L_5quickestNow_4 v z j4)), some (.int (nI (j4))), none] [.int (nI (1)), .int (nI (j4)), .ref 16384] _ [] rfl trivial ?_
    refine AR.callV1 (16384) [.int (nI (j4)), .int (nI (1))] [] lk_5_58 dc_X5_quickestNow_17 rfl rfl (s_ofCarrier _ j4 1 (by omega) (by omega)) (by first | rfl | (simp only [nI_add, pk_mul]; first | done | rfl)) rfl ?_
    refine AR.ne (tgt := 27) dc_X5_quickestNow_20 (by decide) (fun c20_2 => ?_) (fun c20_2 => ?_)
    · refine AR.run g_X5_quickestNow_27_3 32 [some (.ref 16384), some (.int (nI (v))), some (.int (L_5quickestNow_4 v z j4)), some (.int (nI (j4))), some (.int (nI (0)))] [.int (nI (0))] _ [] rfl trivial ?_
      refine AR.eqN (tgt := 59) (a := 0) dc_X5_quickestNow_32 (by decide) (by first | rfl | (simp only [nI_add, pk_mul]; first | done | rfl)) (by omega) (fun c32_3 => ?_) (fun c32_3 => absurd c32_3 (by omega))
      refine AR.run g_X5_quickestNow_59_4 4 [some (.ref 16384), some (.int (nI (v))), some (.int (L_5quickestNow_4 v z j4)), some (.int ((nI (j4)) + (nI (1)))), some (.int (nI (0)))] [] _ [] rfl trivial ?_
      refine AR.drop (L' := [some (.ref 16384), some (.int (nI (v))), some (.int (L_5quickestNow_4 v z j4)), some (.int ((nI (j4)) + (nI (1)))), none]) ⟨rfl, rfl, rfl, rfl, trivial⟩ ?_
      have e4 : L_5quickestNow_4 v z (j4 + 1) = (L_5quickestNow_4 v z j4) := by rw [L_5quickestNow_4, B_5quickestNow_4, if_neg c20_2]
      exact AR.cast (L' := [some (.ref 16384), some (.int (nI (v))), some (.int (L_5quickestNow_4 v z (j4 + 1))), some (.int (nI (j4 + 1))), none]) (by rw [e4, nI_add]) rfl rfl (ih4 (by rw [e4]; first | exact hI4 | exact Or.inr ⟨_, by omega, rfl⟩))
    · refine AR.run g_X5_quickestNow_23_4 32 [some (.ref 16384), some (.int (nI (v))), some (.int (L_5quickestNow_4 v z j4)), some (.int (nI (j4))), some (.int (nI (1)))] [.int (nI (1))] _ [] rfl trivial ?_
      refine AR.eqN (tgt := 59) (a := 1) dc_X5_quickestNow_32 (by decide) (by first | rfl | (simp only [nI_add, pk_mul]; first | done | rfl)) (by omega) (fun c32_5 => absurd c32_5 (by omega)) (fun c32_5 => ?_)
      refine AR.run g_X5_quickestNow_35_2 37 [some (.ref 16384), some (.int (nI (v))), some (.int (L_5quickestNow_4 v z j4)), some (.int (nI (j4))), some (.int (nI (1)))] [.int (-1), .int (L_5quickestNow_4 v z j4)] _ [] rfl trivial ?_
      refine AR.eq2 (tgt := 55) dc_X5_quickestNow_37 (by decide) (fun c37_6 => ?_) (fun c37_6 => ?_)
      · refine AR.run g_X5_quickestNow_55_5 4 [some (.ref 16384), some (.int (nI (v))), some (.int (nI (j4))), some (.int ((nI (j4)) + (nI (1)))), some (.int (nI (1)))] [] _ [] rfl trivial ?_
        refine AR.drop (L' := [some (.ref 16384), some (.int (nI (v))), some (.int (nI (j4))), some (.int ((nI (j4)) + (nI (1)))), none]) ⟨rfl, rfl, rfl, rfl, trivial⟩ ?_
        have e7 : L_5quickestNow_4 v z (j4 + 1) = (nI (j4)) := by rw [L_5quickestNow_4, B_5quickestNow_4, if_pos c20_2, if_pos c37_6]
        exact AR.cast (L' := [some (.ref 16384), some (.int (nI (v))), some (.int (L_5quickestNow_4 v z (j4 + 1))), some (.int (nI (j4 + 1))), none]) (by rw [e7, nI_add]) rfl rfl (ih4 (by rw [e7]; first | exact hI4 | exact Or.inr ⟨_, by omega, rfl⟩))
      · obtain ⟨hx9, hy9⟩ := QI_get (by omega) hI4 (by assumption)
        refine AR.cast (L' := [some (.ref 16384), some (.int (nI (v))), some (.int (nI ((L_5quickestNow_4 v z j4).toNatClampNeg))), some (.int (nI (j4))), some (.int (nI (1)))]) (by rw [← hx9]) rfl rfl ?_
        refine AR.run g_X5_quickestNow_40_3 43 [some (.ref 16384), some (.int (nI (v))), some (.int (nI ((L_5quickestNow_4 v z j4).toNatClampNeg))), some (.int (nI (j4))), some (.int (nI (1)))] [.int (nI (j4)), .int (nI (v)), .ref 16384] _ [] rfl trivial ?_
        refine AR.callV1 (16384) [.int (nI (v)), .int (nI (j4))] [] lk_5_82 dc_X5_quickestNow_43 rfl rfl (s_way _ v j4 (by omega) (by omega)) (by first | rfl | (simp only [nI_add, pk_mul]; first | done | rfl)) rfl ?_
        refine AR.run g_X5_quickestNow_46_3 49 [some (.ref 16384), some (.int (nI (v))), some (.int (nI ((L_5quickestNow_4 v z j4).toNatClampNeg))), some (.int (nI (j4))), some (.int (nI (1)))] [.int (nI ((L_5quickestNow_4 v z j4).toNatClampNeg)), .int (nI (v)), .ref 16384, .int (wayZ z v j4)] _ [] rfl trivial ?_
        refine AR.callV1 (16384) [.int (nI (v)), .int (nI ((L_5quickestNow_4 v z j4).toNatClampNeg))] [.int (wayZ z v j4)] lk_5_82 dc_X5_quickestNow_49 rfl rfl (s_way _ v ((L_5quickestNow_4 v z j4).toNatClampNeg) (by omega) (by omega)) (by first | rfl | (simp only [nI_add, pk_mul]; first | done | rfl)) rfl ?_
        refine AR.ge2 (tgt := 59) dc_X5_quickestNow_52 (by decide) (fun c52_8 => ?_) (fun c52_8 => ?_)
        · refine AR.run g_X5_quickestNow_59_4 4 [some (.ref 16384), some (.int (nI (v))), some (.int (nI ((L_5quickestNow_4 v z j4).toNatClampNeg))), some (.int ((nI (j4)) + (nI (1)))), some (.int (nI (1)))] [] _ [] rfl trivial ?_
          refine AR.drop (L' := [some (.ref 16384), some (.int (nI (v))), some (.int (nI ((L_5quickestNow_4 v z j4).toNatClampNeg))), some (.int ((nI (j4)) + (nI (1)))), none]) ⟨rfl, rfl, rfl, rfl, trivial⟩ ?_
          have e9 : L_5quickestNow_4 v z (j4 + 1) = (nI ((L_5quickestNow_4 v z j4).toNatClampNeg)) := by rw [L_5quickestNow_4, B_5quickestNow_4, if_pos c20_2, if_neg c37_6, if_pos c52_8]
          exact AR.cast (L' := [some (.ref 16384), some (.int (nI (v))), some (.int (L_5quickestNow_4 v z (j4 + 1))), some (.int (nI (j4 + 1))), none]) (by rw [e9, nI_add]) rfl rfl (ih4 (by rw [e9]; first | exact hI4 | exact Or.inr ⟨_, by omega, rfl⟩))
        · refine AR.run g_X5_quickestNow_55_5 4 [some (.ref 16384), some (.int (nI (v))), some (.int (nI (j4))), some (.int ((nI (j4)) + (nI (1)))), some (.int (nI (1)))] [] _ [] rfl trivial ?_
          refine AR.drop (L' := [some (.ref 16384), some (.int (nI (v))), some (.int (nI (j4))), some (.int ((nI (j4)) + (nI (1)))), none]) ⟨rfl, rfl, rfl, rfl, trivial⟩ ?_
          have e10 : L_5quickestNow_4 v z (j4 + 1) = (nI (j4)) := by rw [L_5quickestNow_4, B_5quickestNow_4, if_pos c20_2, if_neg c37_6, if_neg c52_8]
          exact AR.cast (L' := [some (.ref 16384), some (.int (nI (v))), some (.int (L_5quickestNow_4 v z (j4 + 1))), some (.int (nI (j4 + 1))), none]) (by rw [e10, nI_add]) rfl rfl (ih4 (by rw [e10]; first | exact hI4 | exact Or.inr ⟨_, by omega, rfl⟩))
  · refine AR.run g_X5_quickestNow_4_4 10 [some (.ref 16384), some (.int (nI (v))), some (.int (L_5quickestNow_4 v z nr)), some (.int (nI (nr))), none] [.int (nI (2)), .ref 16385, .int (nI (nr))] _ [] rfl trivial ?_
    refine AR.ald (n := 0) (e := 2) ok_X5_quickestNow_10 (by first | rfl | (simp only [nI_add, pk_mul]; first | done | rfl)) rfl (by omega) (by first | decide | omega) ?_
    refine AR.top hZ.2.2.1.1 ?_
    refine AR.ge2N (tgt := 67) (a := nr) (b := nr) dc_X5_quickestNow_11 (by decide) (by first | rfl | (simp only [nI_add, pk_mul]; first | done | rfl)) (by first | rfl | (simp only [nI_add, pk_mul]; first | done | rfl)) (by omega) (by omega) (fun c11_11 => ?_) (fun c11_11 => absurd c11_11 (by omega))
    refine AR.run g_X5_quickestNow_67_1 68 [some (.ref 16384), some (.int (nI (v))), some (.int (L_5quickestNow_4 v z nr)), some (.int (nI (nr))), none] [.int (L_5quickestNow_4 v z nr)] _ [] rfl trivial ?_
    exact AR.retI dc_X5_quickestNow_68 rfl rfl rfl
end
section
/-! changes of the reference's cells -/
theorem upd_ne {f : Nat → Int32} {i k : Nat} {x : Int32} (h : k ≠ i) : upd f i x k = f k := if_neg h
theorem upd_eq {f : Nat → Int32} {i : Nat} {x : Int32} : upd f i x i = x := if_pos rfl
theorem lv_upd {z : Nat → Int32} {i v : Nat} {x : Int32} (h : i ≠ 11 + 7 * v + 2) : lv (upd z i x) v = lv z v := by
  unfold lv
  rw [upd_ne (fun q => h q.symm)]
theorem LV_upd {z : Nat → Int32} {nv i : Nat} {x : Int32} (h12 : nv ≤ 12) (h : ∀ v, v < 12 → i ≠ 11 + 7 * v + 2) (hL : LV z nv) : LV (upd z i x) nv := by
  intro v hv
  rw [lv_upd (h v (by omega)), upd_ne (fun q => h v (by omega) q.symm)]
  exact hL v hv
/-- a place that the walks don't look at -/
def plc (i : Nat) : Prop := i ≠ 0 ∧ i ≠ 1 ∧ i ≠ 2 ∧ i ≠ 5 ∧ ∀ v, v < 12 → i ≠ 11 + 7 * v + 2
theorem ZI_upd {z : Nat → Int32} {nv nc nr ne i : Nat} {x : Int32} (h : plc i) (hZ : ZI z nv nc nr ne) : ZI (upd z i x) nv nc nr ne := by
  obtain ⟨a, b, c, e, g⟩ := h
  obtain ⟨⟨h1, h2⟩, ⟨h3, h4⟩, ⟨h5, h6⟩, ⟨h7, h8⟩, h9⟩ := hZ
  exact ⟨⟨(upd_ne a.symm).trans h1, h2⟩, ⟨(upd_ne b.symm).trans h3, h4⟩, ⟨(upd_ne c.symm).trans h5, h6⟩, ⟨(upd_ne e.symm).trans h7, h8⟩, LV_upd h2 g h9⟩
theorem nlB_congr {f g : Nat → Int32} : ∀ {m k : Nat}, (∀ j, k ≤ j → j < k + m → f j = g j) → nlB f m k = nlB g m k := by
  have H : ∀ (y : Int32) (m k : Nat), (∀ j, k ≤ j → j < k + m → f j = g j) → fi (fun j => f j = y) m k = fi (fun j => g j = y) m k := by
    intro y m
    induction m with
    | zero => intro k _; rfl
    | succ m ih =>
      intro k h
      unfold fi
      rw [ih (k + 1) (fun j h1 h2 => h j (by omega) (by omega)), h k (Nat.le_refl _) (by omega)]
  intro m k h
  unfold nlB
  rw [H _ m k h, H _ m k h]
theorem nlO_upd {z : Nat → Int32} {i v n : Nat} {x : Int32} (h : i < 423) : nlO (upd z i x) v n = nlO z v n := nlB_congr fun j _ _ => upd_ne (by omega)
def B_5saveF_11 (j11 : Nat) (y11_ro : Nat → Int32) : (Nat → Int32) := (upd y11_ro j11 (y11_ro (1863 + j11)))
def L_5saveF_11 (ro : Nat → Int32) : Nat → (Nat → Int32)
  | 0 => ro
  | j + 1 => B_5saveF_11  j (L_5saveF_11 ro  j)
def B_5saveF_52 (z : Nat → Int32) (j52 : Nat) (y52_ro : Nat → Int32) : (Nat → Int32) := (upd y52_ro ((1863 * (6 - 1)) + j52) (z j52))
def L_5saveF_52 (z : Nat → Int32) (ro : Nat → Int32) : Nat → (Nat → Int32)
  | 0 => L_5saveF_11 ro 9315
  | j + 1 => B_5saveF_52 z j (L_5saveF_52 z ro  j)
def F_5saveF_ro (z : Nat → Int32) (ro : Nat → Int32) : Nat → Int32 := (L_5saveF_52 z ro 1863)
def F_5saveF_sv : Int32 := ((nI ((6 - 1))) + (nI (1)))
theorem g_X5_save_0_2 : ab_oks M_X5_save [(0, .aload_n 0, 1, 0, 0, 0, .null), (1, .getfield 48, 3, 5, 13, 943, .null)] = true := by decide +kernel
theorem g_X5_save_4_1 : ab_oks M_X5_save [(4, .bipush 6, 2, 0, 0, 0, .int (nI (6)))] = true := by decide +kernel
theorem dc_X5_save_6 : decode (AM.bytes M_X5_save) 6 = .ok (.if_icmp .ne 44, 3) := by decide +kernel
theorem g_X5_save_9_2 : ab_oks M_X5_save [(9, .iconst 0, 1, 0, 0, 0, .int (nI (0))), (10, .istore_n 1, 1, 1, 0, 0, .null)] = true := by decide +kernel
theorem g_X5_save_11_2 : ab_oks M_X5_save [(11, .iload_n 1, 1, 1, 0, 0, .null), (12, .sipush 9315, 3, 0, 0, 0, .int (nI (9315)))] = true := by decide +kernel
theorem dc_X5_save_15 : decode (AM.bytes M_X5_save) 15 = .ok (.if_icmp .ge 25, 3) := by decide +kernel
theorem g_X5_save_18_8 : ab_oks M_X5_save [(18, .aload_n 0, 1, 0, 0, 0, .null), (19, .getfield 16, 3, 5, 2, 932, .null), (22, .iload_n 1, 1, 1, 0, 0, .null), (23, .aload_n 0, 1, 0, 0, 0, .null), (24, .getfield 16, 3, 5, 2, 932, .null), (27, .sipush 1863, 3, 0, 0, 0, .int (nI (1863))), (30, .iload_n 1, 1, 1, 0, 0, .null), (31, .iadd, 1, 0, 0, 0, .null)] = true := by decide +kernel
theorem ok_X5_save_32 : ab_ok M_X5_save (32, .iaload, 1, 0, 0, 0, .null) = true := by decide +kernel
theorem ok_X5_save_33 : ab_ok M_X5_save (33, .iastore, 1, 0, 0, 0, .null) = true := by decide +kernel
theorem g_X5_save_34_2 : ab_oks M_X5_save [(34, .iinc 1 1, 3, 1, 0, 0, .int (nI (1))), (37, .goto (-26), 3, 11, 0, 0, .null)] = true := by decide +kernel
theorem g_X5_save_40_3 : ab_oks M_X5_save [(40, .aload_n 0, 1, 0, 0, 0, .null), (41, .dup, 1, 0, 0, 0, .null), (42, .getfield 48, 3, 5, 13, 943, .null)] = true := by decide +kernel
theorem g_X5_save_45_2 : ab_oks M_X5_save [(45, .iconst 1, 1, 0, 0, 0, .int (nI (1))), (46, .isub, 1, 0, 0, 0, .null)] = true := by decide +kernel
theorem g_X5_save_47_3 : ab_oks M_X5_save [(47, .putfield 48, 3, 5, 13, 943, .null), (50, .iconst 0, 1, 0, 0, 0, .int (nI (0))), (51, .istore_n 1, 1, 1, 0, 0, .null)] = true := by decide +kernel
theorem g_X5_save_52_2 : ab_oks M_X5_save [(52, .iload_n 1, 1, 1, 0, 0, .null), (53, .sipush 1863, 3, 0, 0, 0, .int (nI (1863)))] = true := by decide +kernel
theorem dc_X5_save_56 : decode (AM.bytes M_X5_save) 56 = .ok (.if_icmp .ge 30, 3) := by decide +kernel
theorem g_X5_save_59_11 : ab_oks M_X5_save [(59, .aload_n 0, 1, 0, 0, 0, .null), (60, .getfield 16, 3, 5, 2, 932, .null), (63, .sipush 1863, 3, 0, 0, 0, .int (nI (1863))), (66, .aload_n 0, 1, 0, 0, 0, .null), (67, .getfield 48, 3, 5, 13, 943, .null), (70, .imul, 1, 0, 0, 0, .null), (71, .iload_n 1, 1, 1, 0, 0, .null), (72, .iadd, 1, 0, 0, 0, .null), (73, .aload_n 0, 1, 0, 0, 0, .null), (74, .getfield 7, 3, 5, 0, 930, .null), (77, .iload_n 1, 1, 1, 0, 0, .null)] = true := by decide +kernel
theorem ok_X5_save_78 : ab_ok M_X5_save (78, .iaload, 1, 0, 0, 0, .null) = true := by decide +kernel
theorem ok_X5_save_79 : ab_ok M_X5_save (79, .iastore, 1, 0, 0, 0, .null) = true := by decide +kernel
theorem g_X5_save_80_2 : ab_oks M_X5_save [(80, .iinc 1 1, 3, 1, 0, 0, .int (nI (1))), (83, .goto (-31), 3, 52, 0, 0, .null)] = true := by decide +kernel
theorem g_X5_save_86_6 : ab_oks M_X5_save [(86, .aload_n 0, 1, 0, 0, 0, .null), (87, .dup, 1, 0, 0, 0, .null), (88, .getfield 48, 3, 5, 13, 943, .null), (91, .iconst 1, 1, 0, 0, 0, .int (nI (1))), (92, .iadd, 1, 0, 0, 0, .null), (93, .putfield 48, 3, 5, 13, 943, .null)] = true := by decide +kernel
theorem dc_X5_save_96 : decode (AM.bytes M_X5_save) 96 = .ok (.return_, 1) := by decide +kernel
set_option maxRecDepth 100000 in
set_option maxHeartbeats 4000000 in
theorem s_5saveF {E : AE} (d : Nat)  {o0 a0 t0 p0 u0 l0 : List AC} {z sa ro te fr to un ga pi be : Nat → Int32} {bm en sta sv ln th : Int32} {hh : Int64} (hs : sv = nI 6) : CT E M_X5_save d [.ref 16384] (hp o0 a0 t0 p0 (mo z sa ro te fr to un ga pi be bm en sta sv ln th hh) u0 l0) (.inl none) (hp o0 a0 t0 p0 (mo z sa (F_5saveF_ro z ro) te fr to un ga pi be bm en sta F_5saveF_sv ln th hh) u0 l0) 0 0 := by
  refine CT.of (L := [some (.ref 16384), none]) rfl rfl ?_
  refine AR.run g_X5_save_0_2 4 [some (.ref 16384), none] [.int (sv)] _ [] rfl trivial ?_
  refine AR.top hs ?_
  refine AR.run g_X5_save_4_1 6 [some (.ref 16384), none] [.int (nI (6)), .int (nI (6))] _ [] rfl trivial ?_
  refine AR.ne2N (tgt := 50) (a := 6) (b := 6) dc_X5_save_6 (by decide) (by first | rfl | (simp only [nI_add, pk_mul]; first | done | rfl)) (by first | rfl | (simp only [nI_add, pk_mul]; first | done | rfl)) (by omega) (by omega) (fun c6_1 => absurd c6_1 (by omega)) (fun c6_1 => ?_)
  refine AR.run g_X5_save_9_2 11 [some (.ref 16384), some (.int (nI (0)))] [] _ [] rfl trivial ?_
  refine AR.cast (L' := [some (.ref 16384), some (.int (nI (0)))]) (by first | rfl | (rw [L_5saveF_11])) rfl (by first | rfl | (rw [L_5saveF_11])) (AR.loopN 9315 (fun j11 => [some (.ref 16384), some (.int (nI (j11)))]) (fun j11 => (hp o0 a0 t0 p0 (mo z sa (L_5saveF_11 ro j11) te fr to un ga pi be bm en sta sv ln th hh) u0 l0)) (fun j11 => True) (fun j11 hj11 hI11 ih11 => ?_) (fun hI11 => ?_) 0 (by omega) (by first | trivial | omega))
  · refine AR.run g_X5_save_11_2 15 [some (.ref 16384), some (.int (nI (j11)))] [.int (nI (9315)), .int (nI (j11))] _ [] rfl trivial ?_
    refine AR.ge2N (tgt := 40) (a := j11) (b := 9315) dc_X5_save_15 (by decide) (by first | rfl | (simp only [nI_add, pk_mul]; first | done | rfl)) (by first | rfl | (simp only [nI_add, pk_mul]; first | done | rfl)) (by omega) (by omega) (fun c15_2 => absurd c15_2 (by omega)) (fun c15_2 => ?_)
    refine AR.run g_X5_save_18_8 32 [some (.ref 16384), some (.int (nI (j11)))] [.int ((nI (1863)) + (nI (j11))), .ref 16387, .int (nI (j11)), .ref 16387] _ [] rfl trivial ?_
    refine AR.ald (n := 0) (e := (1863 + j11)) ok_X5_save_32 (by first | rfl | (simp only [nI_add, pk_mul]; first | done | rfl)) rfl (by omega) (by first | decide | omega) ?_
    refine AR.ast (n := 0) (e := j11) (h1 := (hp o0 a0 t0 p0 (mo z sa (upd (L_5saveF_11 ro j11) j11 ((L_5saveF_11 ro j11) (1863 + j11))) te fr to un ga pi be bm en sta sv ln th hh) u0 l0)) ok_X5_save_33 (by first | rfl | (simp only [nI_add, pk_mul]; first | done | rfl)) rfl rfl (by omega) (by decide) rfl ?_
    refine AR.run g_X5_save_34_2 11 [some (.ref 16384), some (.int ((nI (j11)) + (nI (1))))] [] _ [] rfl trivial ?_
    have e3 : L_5saveF_11 ro (j11 + 1) = (upd (L_5saveF_11 ro j11) j11 ((L_5saveF_11 ro j11) (1863 + j11))) := by rw [L_5saveF_11, B_5saveF_11]
    exact AR.cast (L' := [some (.ref 16384), some (.int (nI (j11 + 1)))]) (by first | rfl | rw [nI_add]) rfl (by rw [e3]) (ih11 (by first | trivial | omega))
  · refine AR.run g_X5_save_11_2 15 [some (.ref 16384), some (.int (nI (9315)))] [.int (nI (9315)), .int (nI (9315))] _ [] rfl trivial ?_
    refine AR.ge2N (tgt := 40) (a := 9315) (b := 9315) dc_X5_save_15 (by decide) (by first | rfl | (simp only [nI_add, pk_mul]; first | done | rfl)) (by first | rfl | (simp only [nI_add, pk_mul]; first | done | rfl)) (by omega) (by omega) (fun c15_4 => ?_) (fun c15_4 => absurd c15_4 (by omega))
    refine AR.run g_X5_save_40_3 45 [some (.ref 16384), some (.int (nI (9315)))] [.int (sv), .ref 16384] _ [] rfl trivial ?_
    refine AR.top hs ?_
    refine AR.run g_X5_save_45_2 47 [some (.ref 16384), some (.int (nI (9315)))] [.int ((nI (6)) - (nI (1))), .ref 16384] _ [] rfl trivial ?_
    refine AR.cast (L' := [some (.ref 16384), some (.int (nI (9315)))]) (st' := [.int (nI ((6 - 1))), .ref 16384]) rfl (by rw [pk_sub (by omega)]) rfl ?_
    refine AR.run g_X5_save_47_3 52 [some (.ref 16384), some (.int (nI (0)))] [] (hp o0 a0 t0 p0 (mo z sa (L_5saveF_11 ro 9315) te fr to un ga pi be bm en sta (nI ((6 - 1))) ln th hh) u0 l0) [] rfl trivial ?_
    refine AR.cast (L' := [some (.ref 16384), some (.int (nI (0)))]) (by first | rfl | (rw [L_5saveF_52])) rfl (by first | rfl | (rw [L_5saveF_52])) (AR.loopN 1863 (fun j52 => [some (.ref 16384), some (.int (nI (j52)))]) (fun j52 => (hp o0 a0 t0 p0 (mo z sa (L_5saveF_52 z ro j52) te fr to un ga pi be bm en sta (nI ((6 - 1))) ln th hh) u0 l0)) (fun j52 => True) (fun j52 hj52 hI52 ih52 => ?_) (fun hI52 => ?_) 0 (by omega) (by first | trivial | omega))
    · refine AR.run g_X5_save_52_2 56 [some (.ref 16384), some (.int (nI (j52)))] [.int (nI (1863)), .int (nI (j52))] _ [] rfl trivial ?_
      refine AR.ge2N (tgt := 86) (a := j52) (b := 1863) dc_X5_save_56 (by decide) (by first | rfl | (simp only [nI_add, pk_mul]; first | done | rfl)) (by first | rfl | (simp only [nI_add, pk_mul]; first | done | rfl)) (by omega) (by omega) (fun c56_5 => absurd c56_5 (by omega)) (fun c56_5 => ?_)
      refine AR.run g_X5_save_59_11 78 [some (.ref 16384), some (.int (nI (j52)))] [.int (nI (j52)), .ref 16385, .int (((nI (1863)) * (nI ((6 - 1)))) + (nI (j52))), .ref 16387] _ [] rfl trivial ?_
      refine AR.ald (n := 0) (e := j52) ok_X5_save_78 (by first | rfl | (simp only [nI_add, pk_mul]; first | done | rfl)) rfl (by omega) (by first | decide | omega) ?_
      refine AR.ast (n := 0) (e := ((1863 * (6 - 1)) + j52)) (h1 := (hp o0 a0 t0 p0 (mo z sa (upd (L_5saveF_52 z ro j52) ((1863 * (6 - 1)) + j52) (z j52)) te fr to un ga pi be bm en sta (nI ((6 - 1))) ln th hh) u0 l0)) ok_X5_save_79 (by first | rfl | (simp only [nI_add, pk_mul]; first | done | rfl)) rfl rfl (by omega) (by decide) rfl ?_
      refine AR.run g_X5_save_80_2 52 [some (.ref 16384), some (.int ((nI (j52)) + (nI (1))))] [] _ [] rfl trivial ?_
      have e6 : L_5saveF_52 z ro (j52 + 1) = (upd (L_5saveF_52 z ro j52) ((1863 * (6 - 1)) + j52) (z j52)) := by rw [L_5saveF_52, B_5saveF_52]
      exact AR.cast (L' := [some (.ref 16384), some (.int (nI (j52 + 1)))]) (by first | rfl | rw [nI_add]) rfl (by rw [e6]) (ih52 (by first | trivial | omega))
    · refine AR.run g_X5_save_52_2 56 [some (.ref 16384), some (.int (nI (1863)))] [.int (nI (1863)), .int (nI (1863))] _ [] rfl trivial ?_
      refine AR.ge2N (tgt := 86) (a := 1863) (b := 1863) dc_X5_save_56 (by decide) (by first | rfl | (simp only [nI_add, pk_mul]; first | done | rfl)) (by first | rfl | (simp only [nI_add, pk_mul]; first | done | rfl)) (by omega) (by omega) (fun c56_7 => ?_) (fun c56_7 => absurd c56_7 (by omega))
      refine AR.run g_X5_save_86_6 96 [some (.ref 16384), some (.int (nI (1863)))] [] (hp o0 a0 t0 p0 (mo z sa (L_5saveF_52 z ro 1863) te fr to un ga pi be bm en sta ((nI ((6 - 1))) + (nI (1))) ln th hh) u0 l0) [] rfl trivial ?_
      have e8_0 : F_5saveF_ro z ro = (L_5saveF_52 z ro 1863) := by rw [F_5saveF_ro]
      have e8_1 : F_5saveF_sv = ((nI ((6 - 1))) + (nI (1))) := by rw [F_5saveF_sv]
      exact AR.retV dc_X5_save_96 rfl (by rw [e8_0, e8_1])
def B_5saveM_52 (s : Nat) (z : Nat → Int32) (j52 : Nat) (y52_ro : Nat → Int32) : (Nat → Int32) := (upd y52_ro ((1863 * s) + j52) (z j52))
def L_5saveM_52 (s : Nat) (z : Nat → Int32) (ro : Nat → Int32) : Nat → (Nat → Int32)
  | 0 => ro
  | j + 1 => B_5saveM_52 s z j (L_5saveM_52 s z ro  j)
def F_5saveM_ro (s : Nat) (z : Nat → Int32) (ro : Nat → Int32) : Nat → Int32 := (L_5saveM_52 s z ro 1863)
def F_5saveM_sv (s : Nat) : Int32 := ((nI (s)) + (nI (1)))
theorem g_X5_save_50_2 : ab_oks M_X5_save [(50, .iconst 0, 1, 0, 0, 0, .int (nI (0))), (51, .istore_n 1, 1, 1, 0, 0, .null)] = true := by decide +kernel
theorem g_X5_save_59_5 : ab_oks M_X5_save [(59, .aload_n 0, 1, 0, 0, 0, .null), (60, .getfield 16, 3, 5, 2, 932, .null), (63, .sipush 1863, 3, 0, 0, 0, .int (nI (1863))), (66, .aload_n 0, 1, 0, 0, 0, .null), (67, .getfield 48, 3, 5, 13, 943, .null)] = true := by decide +kernel
theorem g_X5_save_70_6 : ab_oks M_X5_save [(70, .imul, 1, 0, 0, 0, .null), (71, .iload_n 1, 1, 1, 0, 0, .null), (72, .iadd, 1, 0, 0, 0, .null), (73, .aload_n 0, 1, 0, 0, 0, .null), (74, .getfield 7, 3, 5, 0, 930, .null), (77, .iload_n 1, 1, 1, 0, 0, .null)] = true := by decide +kernel
theorem g_X5_save_86_3 : ab_oks M_X5_save [(86, .aload_n 0, 1, 0, 0, 0, .null), (87, .dup, 1, 0, 0, 0, .null), (88, .getfield 48, 3, 5, 13, 943, .null)] = true := by decide +kernel
theorem g_X5_save_91_3 : ab_oks M_X5_save [(91, .iconst 1, 1, 0, 0, 0, .int (nI (1))), (92, .iadd, 1, 0, 0, 0, .null), (93, .putfield 48, 3, 5, 13, 943, .null)] = true := by decide +kernel
set_option maxRecDepth 100000 in
set_option maxHeartbeats 4000000 in
theorem s_5saveM {E : AE} (d : Nat) {s : Nat}  {o0 a0 t0 p0 u0 l0 : List AC} {z sa ro te fr to un ga pi be : Nat → Int32} {bm en sta sv ln th : Int32} {hh : Int64} (hs : sv = nI s) (hs6 : s < 6) : CT E M_X5_save d [.ref 16384] (hp o0 a0 t0 p0 (mo z sa ro te fr to un ga pi be bm en sta sv ln th hh) u0 l0) (.inl none) (hp o0 a0 t0 p0 (mo z sa (F_5saveM_ro s z ro) te fr to un ga pi be bm en sta (F_5saveM_sv s) ln th hh) u0 l0) 0 0 := by
  refine CT.of (L := [some (.ref 16384), none]) rfl rfl ?_
  refine AR.run g_X5_save_0_2 4 [some (.ref 16384), none] [.int (sv)] _ [] rfl trivial ?_
  refine AR.top hs ?_
  refine AR.run g_X5_save_4_1 6 [some (.ref 16384), none] [.int (nI (6)), .int (nI (s))] _ [] rfl trivial ?_
  refine AR.ne2N (tgt := 50) (a := s) (b := 6) dc_X5_save_6 (by decide) (by first | rfl | (simp only [nI_add, pk_mul]; first | done | rfl)) (by first | rfl | (simp only [nI_add, pk_mul]; first | done | rfl)) (by omega) (by omega) (fun c6_1 => ?_) (fun c6_1 => absurd c6_1 (by omega))
  refine AR.run g_X5_save_50_2 52 [some (.ref 16384), some (.int (nI (0)))] [] _ [] rfl trivial ?_
  refine AR.cast (L' := [some (.ref 16384), some (.int (nI (0)))]) (by first | rfl | (rw [L_5saveM_52])) rfl (by first | rfl | (rw [L_5saveM_52])) (AR.loopN 1863 (fun j52 => [some (.ref 16384), some (.int (nI (j52)))]) (fun j52 => (hp o0 a0 t0 p0 (mo z sa (L_5saveM_52 s z ro j52) te fr to un ga pi be bm en sta sv ln th hh) u0 l0)) (fun j52 => True) (fun j52 hj52 hI52 ih52 => ?_) (fun hI52 => ?_) 0 (by omega) (by first | trivial | omega))
  · refine AR.run g_X5_save_52_2 56 [some (.ref 16384), some (.int (nI (j52)))] [.int (nI (1863)), .int (nI (j52))] _ [] rfl trivial ?_
    refine AR.ge2N (tgt := 86) (a := j52) (b := 1863) dc_X5_save_56 (by decide) (by first | rfl | (simp only [nI_add, pk_mul]; first | done | rfl)) (by first | rfl | (simp only [nI_add, pk_mul]; first | done | rfl)) (by omega) (by omega) (fun c56_2 => absurd c56_2 (by omega)) (fun c56_2 => ?_)
    refine AR.run g_X5_save_59_5 70 [some (.ref 16384), some (.int (nI (j52)))] [.int (sv), .int (nI (1863)), .ref 16387] _ [] rfl trivial ?_
    refine AR.top hs ?_
    refine AR.run g_X5_save_70_6 78 [some (.ref 16384), some (.int (nI (j52)))] [.int (nI (j52)), .ref 16385, .int (((nI (1863)) * (nI (s))) + (nI (j52))), .ref 16387] _ [] rfl trivial ?_
    refine AR.ald (n := 0) (e := j52) ok_X5_save_78 (by first | rfl | (simp only [nI_add, pk_mul]; first | done | rfl)) rfl (by omega) (by first | decide | omega) ?_
    refine AR.ast (n := 0) (e := ((1863 * s) + j52)) (h1 := (hp o0 a0 t0 p0 (mo z sa (upd (L_5saveM_52 s z ro j52) ((1863 * s) + j52) (z j52)) te fr to un ga pi be bm en sta sv ln th hh) u0 l0)) ok_X5_save_79 (by first | rfl | (simp only [nI_add, pk_mul]; first | done | rfl)) rfl rfl (by omega) (by decide) rfl ?_
    refine AR.run g_X5_save_80_2 52 [some (.ref 16384), some (.int ((nI (j52)) + (nI (1))))] [] _ [] rfl trivial ?_
    have e3 : L_5saveM_52 s z ro (j52 + 1) = (upd (L_5saveM_52 s z ro j52) ((1863 * s) + j52) (z j52)) := by rw [L_5saveM_52, B_5saveM_52]
    exact AR.cast (L' := [some (.ref 16384), some (.int (nI (j52 + 1)))]) (by first | rfl | rw [nI_add]) rfl (by rw [e3]) (ih52 (by first | trivial | omega))
  · refine AR.run g_X5_save_52_2 56 [some (.ref 16384), some (.int (nI (1863)))] [.int (nI (1863)), .int (nI (1863))] _ [] rfl trivial ?_
    refine AR.ge2N (tgt := 86) (a := 1863) (b := 1863) dc_X5_save_56 (by decide) (by first | rfl | (simp only [nI_add, pk_mul]; first | done | rfl)) (by first | rfl | (simp only [nI_add, pk_mul]; first | done | rfl)) (by omega) (by omega) (fun c56_4 => ?_) (fun c56_4 => absurd c56_4 (by omega))
    refine AR.run g_X5_save_86_3 91 [some (.ref 16384), some (.int (nI (1863)))] [.int (sv), .ref 16384] _ [] rfl trivial ?_
    refine AR.top hs ?_
    refine AR.run g_X5_save_91_3 96 [some (.ref 16384), some (.int (nI (1863)))] [] (hp o0 a0 t0 p0 (mo z sa (L_5saveM_52 s z ro 1863) te fr to un ga pi be bm en sta ((nI (s)) + (nI (1))) ln th hh) u0 l0) [] rfl trivial ?_
    have e5_0 : F_5saveM_ro s z ro = (L_5saveM_52 s z ro 1863) := by rw [F_5saveM_ro]
    have e5_1 : F_5saveM_sv s = ((nI (s)) + (nI (1))) := by rw [F_5saveM_sv]
    exact AR.retV dc_X5_save_96 rfl (by rw [e5_0, e5_1])
/-- the saved states behind a save -/
def svR (z ro : Nat → Int32) (s : Nat) : Nat → Int32 := if s = 6 then F_5saveF_ro z ro else F_5saveM_ro s z ro
def svN (s : Nat) : Nat := if s = 6 then 6 else s + 1
theorem s_5save {E : AE} (d : Nat) {s : Nat} {o0 a0 t0 p0 u0 l0 : List AC} {z sa ro te fr to un ga pi be : Nat → Int32} {bm en sta sv ln th : Int32} {hh : Int64} (hs : sv = nI s) (hs6 : s ≤ 6) : CT E M_X5_save d [.ref 16384] (hp o0 a0 t0 p0 (mo z sa ro te fr to un ga pi be bm en sta sv ln th hh) u0 l0) (.inl none) (hp o0 a0 t0 p0 (mo z sa (svR z ro s) te fr to un ga pi be bm en sta (nI (svN s)) ln th hh) u0 l0) 0 0 := by
  by_cases h : s = 6
  · subst h
    have h1 := s_5saveF (E := E) d (o0 := o0) (a0 := a0) (t0 := t0) (p0 := p0) (u0 := u0) (l0 := l0) (z := z) (sa := sa) (ro := ro) (te := te) (fr := fr) (to := to) (un := un) (ga := ga) (pi := pi) (be := be) (bm := bm) (en := en) (sta := sta) (ln := ln) (th := th) (hh := hh) hs
    exact h1
  · have h1 := s_5saveM (E := E) d (o0 := o0) (a0 := a0) (t0 := t0) (p0 := p0) (u0 := u0) (l0 := l0) (z := z) (sa := sa) (ro := ro) (te := te) (fr := fr) (to := to) (un := un) (ga := ga) (pi := pi) (be := be) (bm := bm) (en := en) (sta := sta) (ln := ln) (th := th) (hh := hh) hs (by omega)
    unfold svR svN
    rw [if_neg h, if_neg h]
    unfold F_5saveM_sv at h1
    rw [nI_add] at h1
    exact h1
end
section
def F_5goesB (v : Nat) (r : Nat) (z : Nat → Int32) : Int32 := (wayZ z v r)
def F_5goesB_z (v : Nat) (r : Nat) (ne : Nat) (w : Nat) (z : Nat → Int32) : Nat → Int32 := (upd (upd (upd (upd (upd (upd (upd (upd (upd (upd (upd (upd (upd z ((95 + (4 * w)) + 2) (nI (0))) ((11 + (7 * v)) + 5) ((-1) + (nI (1)))) ((11 + (7 * v)) + 6) (wayZ z v r)) ((111 + (4 * r)) + 0) (z (11 + 7 * v + 0))) ((111 + (4 * r)) + 1) (wayZ z v r)) ((111 + (4 * r)) + 2) ((z ((111 + (4 * r)) + 2)) + (nI (1)))) ((111 + (4 * r)) + 3) ((z ((111 + (4 * r)) + 3)) + (wayZ z v r))) (123 + (5 * ne)) (z 3)) ((123 + (5 * ne)) + 1) (nI (r))) ((123 + (5 * ne)) + 2) (nI (v))) ((123 + (5 * ne)) + 3) (-1)) ((123 + (5 * ne)) + 4) (wayZ z v r)) 5 (nI ((ne + 1))))
theorem g_X5_goes_0_3 : ab_oks M_X5_goes [(0, .aload_n 0, 1, 0, 0, 0, .null), (1, .iload_n 1, 1, 1, 0, 0, .null), (2, .iload_n 3, 1, 3, 0, 0, .null)] = true := by decide +kernel
theorem dc_X5_goes_3 : decode (AM.bytes M_X5_goes) 3 = .ok (.invokevirtual 82, 3) := by decide +kernel
theorem g_X5_goes_6_4 : ab_oks M_X5_goes [(6, .istore 4, 2, 4, 0, 0, .null), (8, .aload_n 0, 1, 0, 0, 0, .null), (9, .iload_n 1, 1, 1, 0, 0, .null), (10, .iconst 5, 1, 0, 0, 0, .int (nI (5)))] = true := by decide +kernel
theorem dc_X5_goes_11 : decode (AM.bytes M_X5_goes) 11 = .ok (.invokevirtual 62, 3) := by decide +kernel
theorem g_X5_goes_14_2 : ab_oks M_X5_goes [(14, .iconst 1, 1, 0, 0, 0, .int (nI (1))), (15, .isub, 1, 0, 0, 0, .null)] = true := by decide +kernel
theorem g_X5_goes_16_7 : ab_oks M_X5_goes [(16, .istore 5, 2, 5, 0, 0, .null), (18, .aload_n 0, 1, 0, 0, 0, .null), (19, .getfield 7, 3, 5, 0, 930, .null), (22, .bipush 95, 2, 0, 0, 0, .int (nI (95))), (24, .iconst 4, 1, 0, 0, 0, .int (nI (4))), (25, .iload_n 2, 1, 2, 0, 0, .null), (26, .iconst (-1), 1, 0, 0, 0, .int (-1))] = true := by decide +kernel
theorem dc_X5_goes_27 : decode (AM.bytes M_X5_goes) 27 = .ok (.if_icmp .ne 8, 3) := by decide +kernel
theorem g_X5_goes_30_7 : ab_oks M_X5_goes [(30, .iload 5, 2, 5, 0, 0, .null), (32, .goto 4, 3, 36, 0, 0, .null), (36, .imul, 1, 0, 0, 0, .null), (37, .iadd, 1, 0, 0, 0, .null), (38, .iconst 2, 1, 0, 0, 0, .int (nI (2))), (39, .iadd, 1, 0, 0, 0, .null), (40, .iconst 0, 1, 0, 0, 0, .int (nI (0)))] = true := by decide +kernel
theorem ok_X5_goes_41 : ab_ok M_X5_goes (41, .iastore, 1, 0, 0, 0, .null) = true := by decide +kernel
theorem g_X5_goes_42_12 : ab_oks M_X5_goes [(42, .aload_n 0, 1, 0, 0, 0, .null), (43, .getfield 7, 3, 5, 0, 930, .null), (46, .bipush 11, 2, 0, 0, 0, .int (nI (11))), (48, .bipush 7, 2, 0, 0, 0, .int (nI (7))), (50, .iload_n 1, 1, 1, 0, 0, .null), (51, .imul, 1, 0, 0, 0, .null), (52, .iadd, 1, 0, 0, 0, .null), (53, .iconst 5, 1, 0, 0, 0, .int (nI (5))), (54, .iadd, 1, 0, 0, 0, .null), (55, .iload_n 2, 1, 2, 0, 0, .null), (56, .iconst 1, 1, 0, 0, 0, .int (nI (1))), (57, .iadd, 1, 0, 0, 0, .null)] = true := by decide +kernel
theorem ok_X5_goes_58 : ab_ok M_X5_goes (58, .iastore, 1, 0, 0, 0, .null) = true := by decide +kernel
theorem g_X5_goes_59_10 : ab_oks M_X5_goes [(59, .aload_n 0, 1, 0, 0, 0, .null), (60, .getfield 7, 3, 5, 0, 930, .null), (63, .bipush 11, 2, 0, 0, 0, .int (nI (11))), (65, .bipush 7, 2, 0, 0, 0, .int (nI (7))), (67, .iload_n 1, 1, 1, 0, 0, .null), (68, .imul, 1, 0, 0, 0, .null), (69, .iadd, 1, 0, 0, 0, .null), (70, .bipush 6, 2, 0, 0, 0, .int (nI (6))), (72, .iadd, 1, 0, 0, 0, .null), (73, .iload 4, 2, 4, 0, 0, .null)] = true := by decide +kernel
theorem ok_X5_goes_75 : ab_ok M_X5_goes (75, .iastore, 1, 0, 0, 0, .null) = true := by decide +kernel
theorem g_X5_goes_76_12 : ab_oks M_X5_goes [(76, .aload_n 0, 1, 0, 0, 0, .null), (77, .getfield 7, 3, 5, 0, 930, .null), (80, .bipush 111, 2, 0, 0, 0, .int (nI (111))), (82, .iconst 4, 1, 0, 0, 0, .int (nI (4))), (83, .iload_n 3, 1, 3, 0, 0, .null), (84, .imul, 1, 0, 0, 0, .null), (85, .iadd, 1, 0, 0, 0, .null), (86, .iconst 0, 1, 0, 0, 0, .int (nI (0))), (87, .iadd, 1, 0, 0, 0, .null), (88, .aload_n 0, 1, 0, 0, 0, .null), (89, .iload_n 1, 1, 1, 0, 0, .null), (90, .iconst 0, 1, 0, 0, 0, .int (nI (0)))] = true := by decide +kernel
theorem dc_X5_goes_91 : decode (AM.bytes M_X5_goes) 91 = .ok (.invokevirtual 62, 3) := by decide +kernel
theorem ok_X5_goes_94 : ab_ok M_X5_goes (94, .iastore, 1, 0, 0, 0, .null) = true := by decide +kernel
theorem g_X5_goes_95_10 : ab_oks M_X5_goes [(95, .aload_n 0, 1, 0, 0, 0, .null), (96, .getfield 7, 3, 5, 0, 930, .null), (99, .bipush 111, 2, 0, 0, 0, .int (nI (111))), (101, .iconst 4, 1, 0, 0, 0, .int (nI (4))), (102, .iload_n 3, 1, 3, 0, 0, .null), (103, .imul, 1, 0, 0, 0, .null), (104, .iadd, 1, 0, 0, 0, .null), (105, .iconst 1, 1, 0, 0, 0, .int (nI (1))), (106, .iadd, 1, 0, 0, 0, .null), (107, .iload 4, 2, 4, 0, 0, .null)] = true := by decide +kernel
theorem ok_X5_goes_109 : ab_ok M_X5_goes (109, .iastore, 1, 0, 0, 0, .null) = true := by decide +kernel
theorem g_X5_goes_110_10 : ab_oks M_X5_goes [(110, .aload_n 0, 1, 0, 0, 0, .null), (111, .getfield 7, 3, 5, 0, 930, .null), (114, .bipush 111, 2, 0, 0, 0, .int (nI (111))), (116, .iconst 4, 1, 0, 0, 0, .int (nI (4))), (117, .iload_n 3, 1, 3, 0, 0, .null), (118, .imul, 1, 0, 0, 0, .null), (119, .iadd, 1, 0, 0, 0, .null), (120, .iconst 2, 1, 0, 0, 0, .int (nI (2))), (121, .iadd, 1, 0, 0, 0, .null), (122, .dup2, 1, 0, 0, 0, .null)] = true := by decide +kernel
theorem ok_X5_goes_123 : ab_ok M_X5_goes (123, .iaload, 1, 0, 0, 0, .null) = true := by decide +kernel
theorem g_X5_goes_124_2 : ab_oks M_X5_goes [(124, .iconst 1, 1, 0, 0, 0, .int (nI (1))), (125, .iadd, 1, 0, 0, 0, .null)] = true := by decide +kernel
theorem ok_X5_goes_126 : ab_ok M_X5_goes (126, .iastore, 1, 0, 0, 0, .null) = true := by decide +kernel
theorem g_X5_goes_127_10 : ab_oks M_X5_goes [(127, .aload_n 0, 1, 0, 0, 0, .null), (128, .getfield 7, 3, 5, 0, 930, .null), (131, .bipush 111, 2, 0, 0, 0, .int (nI (111))), (133, .iconst 4, 1, 0, 0, 0, .int (nI (4))), (134, .iload_n 3, 1, 3, 0, 0, .null), (135, .imul, 1, 0, 0, 0, .null), (136, .iadd, 1, 0, 0, 0, .null), (137, .iconst 3, 1, 0, 0, 0, .int (nI (3))), (138, .iadd, 1, 0, 0, 0, .null), (139, .dup2, 1, 0, 0, 0, .null)] = true := by decide +kernel
theorem ok_X5_goes_140 : ab_ok M_X5_goes (140, .iaload, 1, 0, 0, 0, .null) = true := by decide +kernel
theorem g_X5_goes_141_2 : ab_oks M_X5_goes [(141, .iload 4, 2, 4, 0, 0, .null), (143, .iadd, 1, 0, 0, 0, .null)] = true := by decide +kernel
theorem ok_X5_goes_144 : ab_ok M_X5_goes (144, .iastore, 1, 0, 0, 0, .null) = true := by decide +kernel
theorem g_X5_goes_145_5 : ab_oks M_X5_goes [(145, .bipush 123, 2, 0, 0, 0, .int (nI (123))), (147, .iconst 5, 1, 0, 0, 0, .int (nI (5))), (148, .aload_n 0, 1, 0, 0, 0, .null), (149, .getfield 7, 3, 5, 0, 930, .null), (152, .iconst 5, 1, 0, 0, 0, .int (nI (5)))] = true := by decide +kernel
theorem ok_X5_goes_153 : ab_ok M_X5_goes (153, .iaload, 1, 0, 0, 0, .null) = true := by decide +kernel
theorem g_X5_goes_154_9 : ab_oks M_X5_goes [(154, .imul, 1, 0, 0, 0, .null), (155, .iadd, 1, 0, 0, 0, .null), (156, .istore 6, 2, 6, 0, 0, .null), (158, .aload_n 0, 1, 0, 0, 0, .null), (159, .getfield 7, 3, 5, 0, 930, .null), (162, .iload 6, 2, 6, 0, 0, .null), (164, .aload_n 0, 1, 0, 0, 0, .null), (165, .getfield 7, 3, 5, 0, 930, .null), (168, .iconst 3, 1, 0, 0, 0, .int (nI (3)))] = true := by decide +kernel
theorem ok_X5_goes_169 : ab_ok M_X5_goes (169, .iaload, 1, 0, 0, 0, .null) = true := by decide +kernel
theorem ok_X5_goes_170 : ab_ok M_X5_goes (170, .iastore, 1, 0, 0, 0, .null) = true := by decide +kernel
theorem g_X5_goes_171_6 : ab_oks M_X5_goes [(171, .aload_n 0, 1, 0, 0, 0, .null), (172, .getfield 7, 3, 5, 0, 930, .null), (175, .iload 6, 2, 6, 0, 0, .null), (177, .iconst 1, 1, 0, 0, 0, .int (nI (1))), (178, .iadd, 1, 0, 0, 0, .null), (179, .iload_n 3, 1, 3, 0, 0, .null)] = true := by decide +kernel
theorem ok_X5_goes_180 : ab_ok M_X5_goes (180, .iastore, 1, 0, 0, 0, .null) = true := by decide +kernel
theorem g_X5_goes_181_6 : ab_oks M_X5_goes [(181, .aload_n 0, 1, 0, 0, 0, .null), (182, .getfield 7, 3, 5, 0, 930, .null), (185, .iload 6, 2, 6, 0, 0, .null), (187, .iconst 2, 1, 0, 0, 0, .int (nI (2))), (188, .iadd, 1, 0, 0, 0, .null), (189, .iload_n 1, 1, 1, 0, 0, .null)] = true := by decide +kernel
theorem ok_X5_goes_190 : ab_ok M_X5_goes (190, .iastore, 1, 0, 0, 0, .null) = true := by decide +kernel
theorem g_X5_goes_191_6 : ab_oks M_X5_goes [(191, .aload_n 0, 1, 0, 0, 0, .null), (192, .getfield 7, 3, 5, 0, 930, .null), (195, .iload 6, 2, 6, 0, 0, .null), (197, .iconst 3, 1, 0, 0, 0, .int (nI (3))), (198, .iadd, 1, 0, 0, 0, .null), (199, .iload_n 2, 1, 2, 0, 0, .null)] = true := by decide +kernel
theorem ok_X5_goes_200 : ab_ok M_X5_goes (200, .iastore, 1, 0, 0, 0, .null) = true := by decide +kernel
theorem g_X5_goes_201_6 : ab_oks M_X5_goes [(201, .aload_n 0, 1, 0, 0, 0, .null), (202, .getfield 7, 3, 5, 0, 930, .null), (205, .iload 6, 2, 6, 0, 0, .null), (207, .iconst 4, 1, 0, 0, 0, .int (nI (4))), (208, .iadd, 1, 0, 0, 0, .null), (209, .iload 4, 2, 4, 0, 0, .null)] = true := by decide +kernel
theorem ok_X5_goes_211 : ab_ok M_X5_goes (211, .iastore, 1, 0, 0, 0, .null) = true := by decide +kernel
theorem g_X5_goes_212_4 : ab_oks M_X5_goes [(212, .aload_n 0, 1, 0, 0, 0, .null), (213, .getfield 7, 3, 5, 0, 930, .null), (216, .iconst 5, 1, 0, 0, 0, .int (nI (5))), (217, .dup2, 1, 0, 0, 0, .null)] = true := by decide +kernel
theorem ok_X5_goes_218 : ab_ok M_X5_goes (218, .iaload, 1, 0, 0, 0, .null) = true := by decide +kernel
theorem g_X5_goes_219_2 : ab_oks M_X5_goes [(219, .iconst 1, 1, 0, 0, 0, .int (nI (1))), (220, .iadd, 1, 0, 0, 0, .null)] = true := by decide +kernel
theorem ok_X5_goes_221 : ab_ok M_X5_goes (221, .iastore, 1, 0, 0, 0, .null) = true := by decide +kernel
theorem g_X5_goes_222_1 : ab_oks M_X5_goes [(222, .iload 4, 2, 4, 0, 0, .null)] = true := by decide +kernel
theorem dc_X5_goes_224 : decode (AM.bytes M_X5_goes) 224 = .ok (.ireturn, 1) := by decide +kernel
set_option maxRecDepth 100000 in
set_option maxHeartbeats 4000000 in
theorem s_5goesB {E : AE} (d : Nat) (v : Nat) (r : Nat) {nv : Nat} {nc : Nat} {nr : Nat} {ne : Nat} {w : Nat}  {o0 a0 t0 p0 u0 l0 : List AC} {z sa ro te fr to un ga pi be : Nat → Int32} {bm en sta sv ln th : Int32} {hh : Int64} (hZ : ZI z nv nc nr ne) (hv : v < 12) (hr : r < 3) (hne60 : ne < 60) (hon : z (11 + 7 * v + 5) = nI (w + 1)) (hw : w < 4) : CT E M_X5_goes (d + 2) [.ref 16384, .int (nI (v)), .int (-1), .int (nI (r))] (hp o0 a0 t0 p0 (mo z sa ro te fr to un ga pi be bm en sta sv ln th hh) u0 l0) (.inl (some (.int (F_5goesB v r z)))) (hp o0 a0 t0 p0 (mo (F_5goesB_z v r ne w z) sa ro te fr to un ga pi be bm en sta sv ln th hh) u0 l0) 0 0 := by
  obtain ⟨⟨hnv, h12⟩, ⟨hnc, h4⟩, ⟨hnr, h3⟩, ⟨hne, h60⟩, hLV⟩ := id hZ
  refine CT.of (L := [some (.ref 16384), some (.int (nI (v))), some (.int (-1)), some (.int (nI (r))), none, none, none]) rfl rfl ?_
  refine AR.run g_X5_goes_0_3 3 [some (.ref 16384), some (.int (nI (v))), some (.int (-1)), some (.int (nI (r))), none, none, none] [.int (nI (r)), .int (nI (v)), .ref 16384] _ [] rfl trivial ?_
  refine AR.callV1 (16384) [.int (nI (v)), .int (nI (r))] [] lk_5_82 dc_X5_goes_3 rfl rfl (s_way _ v r (by omega) (by omega)) (by first | rfl | (simp only [nI_add, pk_mul]; first | done | rfl)) rfl ?_
  refine AR.run g_X5_goes_6_4 11 [some (.ref 16384), some (.int (nI (v))), some (.int (-1)), some (.int (nI (r))), some (.int (wayZ z v r)), none, none] [.int (nI (5)), .int (nI (v)), .ref 16384] _ [] rfl trivial ?_
  refine AR.callV1 (16384) [.int (nI (v)), .int (nI (5))] [] lk_5_62 dc_X5_goes_11 rfl rfl (s_ofVolume _ v 5 (by omega) (by omega)) (by first | rfl | (simp only [nI_add, pk_mul]; first | done | rfl)) rfl ?_
  refine AR.top hon ?_
  refine AR.run g_X5_goes_14_2 16 [some (.ref 16384), some (.int (nI (v))), some (.int (-1)), some (.int (nI (r))), some (.int (wayZ z v r)), none, none] [.int ((nI ((w + 1))) - (nI (1)))] _ [] rfl trivial ?_
  refine AR.cast (L' := [some (.ref 16384), some (.int (nI (v))), some (.int (-1)), some (.int (nI (r))), some (.int (wayZ z v r)), none, none]) (st' := [.int (nI (w))]) rfl (by rw [nI_p1]) rfl ?_
  refine AR.run g_X5_goes_16_7 27 [some (.ref 16384), some (.int (nI (v))), some (.int (-1)), some (.int (nI (r))), some (.int (wayZ z v r)), some (.int (nI (w))), none] [.int (-1), .int (-1), .int (nI (4)), .int (nI (95)), .ref 16385] _ [] rfl trivial ?_
  refine AR.ne2 (tgt := 35) dc_X5_goes_27 (by decide) (fun c27_1 => absurd c27_1 (fun q => q rfl)) (fun c27_1 => ?_)
  refine AR.run g_X5_goes_30_7 41 [some (.ref 16384), some (.int (nI (v))), some (.int (-1)), some (.int (nI (r))), some (.int (wayZ z v r)), some (.int (nI (w))), none] [.int (nI (0)), .int (((nI (95)) + ((nI (4)) * (nI (w)))) + (nI (2))), .ref 16385] _ [] rfl trivial ?_
  refine AR.ast (n := 0) (e := ((95 + (4 * w)) + 2)) (h1 := (hp o0 a0 t0 p0 (mo (upd z ((95 + (4 * w)) + 2) (nI (0))) sa ro te fr to un ga pi be bm en sta sv ln th hh) u0 l0)) ok_X5_goes_41 (by first | rfl | (simp only [nI_add, pk_mul]; first | done | rfl)) rfl rfl (by omega) (by decide) rfl ?_
  refine AR.run g_X5_goes_42_12 58 [some (.ref 16384), some (.int (nI (v))), some (.int (-1)), some (.int (nI (r))), some (.int (wayZ z v r)), some (.int (nI (w))), none] [.int ((-1) + (nI (1))), .int (((nI (11)) + ((nI (7)) * (nI (v)))) + (nI (5))), .ref 16385] _ [] rfl trivial ?_
  refine AR.ast (n := 0) (e := ((11 + (7 * v)) + 5)) (h1 := (hp o0 a0 t0 p0 (mo (upd (upd z ((95 + (4 * w)) + 2) (nI (0))) ((11 + (7 * v)) + 5) ((-1) + (nI (1)))) sa ro te fr to un ga pi be bm en sta sv ln th hh) u0 l0)) ok_X5_goes_58 (by first | rfl | (simp only [nI_add, pk_mul]; first | done | rfl)) rfl rfl (by omega) (by decide) rfl ?_
  refine AR.run g_X5_goes_59_10 75 [some (.ref 16384), some (.int (nI (v))), some (.int (-1)), some (.int (nI (r))), some (.int (wayZ z v r)), some (.int (nI (w))), none] [.int (wayZ z v r), .int (((nI (11)) + ((nI (7)) * (nI (v)))) + (nI (6))), .ref 16385] _ [] rfl trivial ?_
  refine AR.ast (n := 0) (e := ((11 + (7 * v)) + 6)) (h1 := (hp o0 a0 t0 p0 (mo (upd (upd (upd z ((95 + (4 * w)) + 2) (nI (0))) ((11 + (7 * v)) + 5) ((-1) + (nI (1)))) ((11 + (7 * v)) + 6) (wayZ z v r)) sa ro te fr to un ga pi be bm en sta sv ln th hh) u0 l0)) ok_X5_goes_75 (by first | rfl | (simp only [nI_add, pk_mul]; first | done | rfl)) rfl rfl (by omega) (by decide) rfl ?_
  refine AR.run g_X5_goes_76_12 91 [some (.ref 16384), some (.int (nI (v))), some (.int (-1)), some (.int (nI (r))), some (.int (wayZ z v r)), some (.int (nI (w))), none] [.int (nI (0)), .int (nI (v)), .ref 16384, .int (((nI (111)) + ((nI (4)) * (nI (r)))) + (nI (0))), .ref 16385] _ [] rfl trivial ?_
  refine AR.callV1 (16384) [.int (nI (v)), .int (nI (0))] [.int (nI (((111 + (4 * r)) + 0))), .ref 16385] lk_5_62 dc_X5_goes_91 rfl rfl (s_ofVolume _ v 0 (by omega) (by omega)) (by first | rfl | (simp only [nI_add, pk_mul]; first | done | rfl)) rfl ?_
  refine AR.top (y := z (11 + 7 * v + 0)) (by rw [rn (by omega), rn (by omega), rn (by omega)]) ?_
  refine AR.ast (n := 0) (e := ((111 + (4 * r)) + 0)) (h1 := (hp o0 a0 t0 p0 (mo (upd (upd (upd (upd z ((95 + (4 * w)) + 2) (nI (0))) ((11 + (7 * v)) + 5) ((-1) + (nI (1)))) ((11 + (7 * v)) + 6) (wayZ z v r)) ((111 + (4 * r)) + 0) (z (11 + 7 * v + 0))) sa ro te fr to un ga pi be bm en sta sv ln th hh) u0 l0)) ok_X5_goes_94 (by first | rfl | (simp only [nI_add, pk_mul]; first | done | rfl)) rfl rfl (by omega) (by decide) rfl ?_
  refine AR.run g_X5_goes_95_10 109 [some (.ref 16384), some (.int (nI (v))), some (.int (-1)), some (.int (nI (r))), some (.int (wayZ z v r)), some (.int (nI (w))), none] [.int (wayZ z v r), .int (((nI (111)) + ((nI (4)) * (nI (r)))) + (nI (1))), .ref 16385] _ [] rfl trivial ?_
  refine AR.ast (n := 0) (e := ((111 + (4 * r)) + 1)) (h1 := (hp o0 a0 t0 p0 (mo (upd (upd (upd (upd (upd z ((95 + (4 * w)) + 2) (nI (0))) ((11 + (7 * v)) + 5) ((-1) + (nI (1)))) ((11 + (7 * v)) + 6) (wayZ z v r)) ((111 + (4 * r)) + 0) (z (11 + 7 * v + 0))) ((111 + (4 * r)) + 1) (wayZ z v r)) sa ro te fr to un ga pi be bm en sta sv ln th hh) u0 l0)) ok_X5_goes_109 (by first | rfl | (simp only [nI_add, pk_mul]; first | done | rfl)) rfl rfl (by omega) (by decide) rfl ?_
  refine AR.run g_X5_goes_110_10 123 [some (.ref 16384), some (.int (nI (v))), some (.int (-1)), some (.int (nI (r))), some (.int (wayZ z v r)), some (.int (nI (w))), none] [.int (((nI (111)) + ((nI (4)) * (nI (r)))) + (nI (2))), .ref 16385, .int (((nI (111)) + ((nI (4)) * (nI (r)))) + (nI (2))), .ref 16385] _ [] rfl trivial ?_
  refine AR.ald (n := 0) (e := ((111 + (4 * r)) + 2)) ok_X5_goes_123 (by first | rfl | (simp only [nI_add, pk_mul]; first | done | rfl)) rfl (by omega) (by first | decide | omega) ?_
  refine AR.top (y := z ((111 + (4 * r)) + 2)) (by rw [rn (by omega), rn (by omega), rn (by omega), rn (by omega), rn (by omega)]) ?_
  refine AR.run g_X5_goes_124_2 126 [some (.ref 16384), some (.int (nI (v))), some (.int (-1)), some (.int (nI (r))), some (.int (wayZ z v r)), some (.int (nI (w))), none] [.int ((z ((111 + (4 * r)) + 2)) + (nI (1))), .int (((nI (111)) + ((nI (4)) * (nI (r)))) + (nI (2))), .ref 16385] _ [] rfl trivial ?_
  refine AR.ast (n := 0) (e := ((111 + (4 * r)) + 2)) (h1 := (hp o0 a0 t0 p0 (mo (upd (upd (upd (upd (upd (upd z ((95 + (4 * w)) + 2) (nI (0))) ((11 + (7 * v)) + 5) ((-1) + (nI (1)))) ((11 + (7 * v)) + 6) (wayZ z v r)) ((111 + (4 * r)) + 0) (z (11 + 7 * v + 0))) ((111 + (4 * r)) + 1) (wayZ z v r)) ((111 + (4 * r)) + 2) ((z ((111 + (4 * r)) + 2)) + (nI (1)))) sa ro te fr to un ga pi be bm en sta sv ln th hh) u0 l0)) ok_X5_goes_126 (by first | rfl | (simp only [nI_add, pk_mul]; first | done | rfl)) rfl rfl (by omega) (by decide) rfl ?_
  refine AR.run g_X5_goes_127_10 140 [some (.ref 16384), some (.int (nI (v))), some (.int (-1)), some (.int (nI (r))), some (.int (wayZ z v r)), some (.int (nI (w))), none] [.int (((nI (111)) + ((nI (4)) * (nI (r)))) + (nI (3))), .ref 16385, .int (((nI (111)) + ((nI (4)) * (nI (r)))) + (nI (3))), .ref 16385] _ [] rfl trivial ?_
  refine AR.ald (n := 0) (e := ((111 + (4 * r)) + 3)) ok_X5_goes_140 (by first | rfl | (simp only [nI_add, pk_mul]; first | done | rfl)) rfl (by omega) (by first | decide | omega) ?_
  refine AR.top (y := z ((111 + (4 * r)) + 3)) (by rw [rn (by omega), rn (by omega), rn (by omega), rn (by omega), rn (by omega), rn (by omega)]) ?_
  refine AR.run g_X5_goes_141_2 144 [some (.ref 16384), some (.int (nI (v))), some (.int (-1)), some (.int (nI (r))), some (.int (wayZ z v r)), some (.int (nI (w))), none] [.int ((z ((111 + (4 * r)) + 3)) + (wayZ z v r)), .int (((nI (111)) + ((nI (4)) * (nI (r)))) + (nI (3))), .ref 16385] _ [] rfl trivial ?_
  refine AR.ast (n := 0) (e := ((111 + (4 * r)) + 3)) (h1 := (hp o0 a0 t0 p0 (mo (upd (upd (upd (upd (upd (upd (upd z ((95 + (4 * w)) + 2) (nI (0))) ((11 + (7 * v)) + 5) ((-1) + (nI (1)))) ((11 + (7 * v)) + 6) (wayZ z v r)) ((111 + (4 * r)) + 0) (z (11 + 7 * v + 0))) ((111 + (4 * r)) + 1) (wayZ z v r)) ((111 + (4 * r)) + 2) ((z ((111 + (4 * r)) + 2)) + (nI (1)))) ((111 + (4 * r)) + 3) ((z ((111 + (4 * r)) + 3)) + (wayZ z v r))) sa ro te fr to un ga pi be bm en sta sv ln th hh) u0 l0)) ok_X5_goes_144 (by first | rfl | (simp only [nI_add, pk_mul]; first | done | rfl)) rfl rfl (by omega) (by decide) rfl ?_
  refine AR.run g_X5_goes_145_5 153 [some (.ref 16384), some (.int (nI (v))), some (.int (-1)), some (.int (nI (r))), some (.int (wayZ z v r)), some (.int (nI (w))), none] [.int (nI (5)), .ref 16385, .int (nI (5)), .int (nI (123))] _ [] rfl trivial ?_
  refine AR.ald (n := 0) (e := 5) ok_X5_goes_153 (by first | rfl | (simp only [nI_add, pk_mul]; first | done | rfl)) rfl (by omega) (by first | decide | omega) ?_
  refine AR.top (y := z 5) (by rw [rn (by omega), rn (by omega), rn (by omega), rn (by omega), rn (by omega), rn (by omega), rn (by omega)]) ?_
  refine AR.top hZ.2.2.2.1.1 ?_
  refine AR.run g_X5_goes_154_9 169 [some (.ref 16384), some (.int (nI (v))), some (.int (-1)), some (.int (nI (r))), some (.int (wayZ z v r)), some (.int (nI (w))), some (.int ((nI (123)) + ((nI (5)) * (nI (ne)))))] [.int (nI (3)), .ref 16385, .int ((nI (123)) + ((nI (5)) * (nI (ne)))), .ref 16385] _ [] rfl trivial ?_
  refine AR.ald (n := 0) (e := 3) ok_X5_goes_169 (by first | rfl | (simp only [nI_add, pk_mul]; first | done | rfl)) rfl (by omega) (by first | decide | omega) ?_
  refine AR.top (y := z 3) (by rw [rn (by omega), rn (by omega), rn (by omega), rn (by omega), rn (by omega), rn (by omega), rn (by omega)]) ?_
  refine AR.ast (n := 0) (e := (123 + (5 * ne))) (h1 := (hp o0 a0 t0 p0 (mo (upd (upd (upd (upd (upd (upd (upd (upd z ((95 + (4 * w)) + 2) (nI (0))) ((11 + (7 * v)) + 5) ((-1) + (nI (1)))) ((11 + (7 * v)) + 6) (wayZ z v r)) ((111 + (4 * r)) + 0) (z (11 + 7 * v + 0))) ((111 + (4 * r)) + 1) (wayZ z v r)) ((111 + (4 * r)) + 2) ((z ((111 + (4 * r)) + 2)) + (nI (1)))) ((111 + (4 * r)) + 3) ((z ((111 + (4 * r)) + 3)) + (wayZ z v r))) (123 + (5 * ne)) (z 3)) sa ro te fr to un ga pi be bm en sta sv ln th hh) u0 l0)) ok_X5_goes_170 (by first | rfl | (simp only [nI_add, pk_mul]; first | done | rfl)) rfl rfl (by omega) (by decide) rfl ?_
  refine AR.run g_X5_goes_171_6 180 [some (.ref 16384), some (.int (nI (v))), some (.int (-1)), some (.int (nI (r))), some (.int (wayZ z v r)), some (.int (nI (w))), some (.int ((nI (123)) + ((nI (5)) * (nI (ne)))))] [.int (nI (r)), .int (((nI (123)) + ((nI (5)) * (nI (ne)))) + (nI (1))), .ref 16385] _ [] rfl trivial ?_
  refine AR.ast (n := 0) (e := ((123 + (5 * ne)) + 1)) (h1 := (hp o0 a0 t0 p0 (mo (upd (upd (upd (upd (upd (upd (upd (upd (upd z ((95 + (4 * w)) + 2) (nI (0))) ((11 + (7 * v)) + 5) ((-1) + (nI (1)))) ((11 + (7 * v)) + 6) (wayZ z v r)) ((111 + (4 * r)) + 0) (z (11 + 7 * v + 0))) ((111 + (4 * r)) + 1) (wayZ z v r)) ((111 + (4 * r)) + 2) ((z ((111 + (4 * r)) + 2)) + (nI (1)))) ((111 + (4 * r)) + 3) ((z ((111 + (4 * r)) + 3)) + (wayZ z v r))) (123 + (5 * ne)) (z 3)) ((123 + (5 * ne)) + 1) (nI (r))) sa ro te fr to un ga pi be bm en sta sv ln th hh) u0 l0)) ok_X5_goes_180 (by first | rfl | (simp only [nI_add, pk_mul]; first | done | rfl)) rfl rfl (by omega) (by decide) rfl ?_
  refine AR.run g_X5_goes_181_6 190 [some (.ref 16384), some (.int (nI (v))), some (.int (-1)), some (.int (nI (r))), some (.int (wayZ z v r)), some (.int (nI (w))), some (.int ((nI (123)) + ((nI (5)) * (nI (ne)))))] [.int (nI (v)), .int (((nI (123)) + ((nI (5)) * (nI (ne)))) + (nI (2))), .ref 16385] _ [] rfl trivial ?_
  refine AR.ast (n := 0) (e := ((123 + (5 * ne)) + 2)) (h1 := (hp o0 a0 t0 p0 (mo (upd (upd (upd (upd (upd (upd (upd (upd (upd (upd z ((95 + (4 * w)) + 2) (nI (0))) ((11 + (7 * v)) + 5) ((-1) + (nI (1)))) ((11 + (7 * v)) + 6) (wayZ z v r)) ((111 + (4 * r)) + 0) (z (11 + 7 * v + 0))) ((111 + (4 * r)) + 1) (wayZ z v r)) ((111 + (4 * r)) + 2) ((z ((111 + (4 * r)) + 2)) + (nI (1)))) ((111 + (4 * r)) + 3) ((z ((111 + (4 * r)) + 3)) + (wayZ z v r))) (123 + (5 * ne)) (z 3)) ((123 + (5 * ne)) + 1) (nI (r))) ((123 + (5 * ne)) + 2) (nI (v))) sa ro te fr to un ga pi be bm en sta sv ln th hh) u0 l0)) ok_X5_goes_190 (by first | rfl | (simp only [nI_add, pk_mul]; first | done | rfl)) rfl rfl (by omega) (by decide) rfl ?_
  refine AR.run g_X5_goes_191_6 200 [some (.ref 16384), some (.int (nI (v))), some (.int (-1)), some (.int (nI (r))), some (.int (wayZ z v r)), some (.int (nI (w))), some (.int ((nI (123)) + ((nI (5)) * (nI (ne)))))] [.int (-1), .int (((nI (123)) + ((nI (5)) * (nI (ne)))) + (nI (3))), .ref 16385] _ [] rfl trivial ?_
  refine AR.ast (n := 0) (e := ((123 + (5 * ne)) + 3)) (h1 := (hp o0 a0 t0 p0 (mo (upd (upd (upd (upd (upd (upd (upd (upd (upd (upd (upd z ((95 + (4 * w)) + 2) (nI (0))) ((11 + (7 * v)) + 5) ((-1) + (nI (1)))) ((11 + (7 * v)) + 6) (wayZ z v r)) ((111 + (4 * r)) + 0) (z (11 + 7 * v + 0))) ((111 + (4 * r)) + 1) (wayZ z v r)) ((111 + (4 * r)) + 2) ((z ((111 + (4 * r)) + 2)) + (nI (1)))) ((111 + (4 * r)) + 3) ((z ((111 + (4 * r)) + 3)) + (wayZ z v r))) (123 + (5 * ne)) (z 3)) ((123 + (5 * ne)) + 1) (nI (r))) ((123 + (5 * ne)) + 2) (nI (v))) ((123 + (5 * ne)) + 3) (-1)) sa ro te fr to un ga pi be bm en sta sv ln th hh) u0 l0)) ok_X5_goes_200 (by first | rfl | (simp only [nI_add, pk_mul]; first | done | rfl)) rfl rfl (by omega) (by decide) rfl ?_
  refine AR.run g_X5_goes_201_6 211 [some (.ref 16384), some (.int (nI (v))), some (.int (-1)), some (.int (nI (r))), some (.int (wayZ z v r)), some (.int (nI (w))), some (.int ((nI (123)) + ((nI (5)) * (nI (ne)))))] [.int (wayZ z v r), .int (((nI (123)) + ((nI (5)) * (nI (ne)))) + (nI (4))), .ref 16385] _ [] rfl trivial ?_
  refine AR.ast (n := 0) (e := ((123 + (5 * ne)) + 4)) (h1 := (hp o0 a0 t0 p0 (mo (upd (upd (upd (upd (upd (upd (upd (upd (upd (upd (upd (upd z ((95 + (4 * w)) + 2) (nI (0))) ((11 + (7 * v)) + 5) ((-1) + (nI (1)))) ((11 + (7 * v)) + 6) (wayZ z v r)) ((111 + (4 * r)) + 0) (z (11 + 7 * v + 0))) ((111 + (4 * r)) + 1) (wayZ z v r)) ((111 + (4 * r)) + 2) ((z ((111 + (4 * r)) + 2)) + (nI (1)))) ((111 + (4 * r)) + 3) ((z ((111 + (4 * r)) + 3)) + (wayZ z v r))) (123 + (5 * ne)) (z 3)) ((123 + (5 * ne)) + 1) (nI (r))) ((123 + (5 * ne)) + 2) (nI (v))) ((123 + (5 * ne)) + 3) (-1)) ((123 + (5 * ne)) + 4) (wayZ z v r)) sa ro te fr to un ga pi be bm en sta sv ln th hh) u0 l0)) ok_X5_goes_211 (by first | rfl | (simp only [nI_add, pk_mul]; first | done | rfl)) rfl rfl (by omega) (by decide) rfl ?_
  refine AR.run g_X5_goes_212_4 218 [some (.ref 16384), some (.int (nI (v))), some (.int (-1)), some (.int (nI (r))), some (.int (wayZ z v r)), some (.int (nI (w))), some (.int ((nI (123)) + ((nI (5)) * (nI (ne)))))] [.int (nI (5)), .ref 16385, .int (nI (5)), .ref 16385] _ [] rfl trivial ?_
  refine AR.ald (n := 0) (e := 5) ok_X5_goes_218 (by first | rfl | (simp only [nI_add, pk_mul]; first | done | rfl)) rfl (by omega) (by first | decide | omega) ?_
  refine AR.top (y := z 5) (by rw [rn (by omega), rn (by omega), rn (by omega), rn (by omega), rn (by omega), rn (by omega), rn (by omega), rn (by omega), rn (by omega), rn (by omega), rn (by omega), rn (by omega)]) ?_
  refine AR.top hZ.2.2.2.1.1 ?_
  refine AR.run g_X5_goes_219_2 221 [some (.ref 16384), some (.int (nI (v))), some (.int (-1)), some (.int (nI (r))), some (.int (wayZ z v r)), some (.int (nI (w))), some (.int ((nI (123)) + ((nI (5)) * (nI (ne)))))] [.int ((nI (ne)) + (nI (1))), .int (nI (5)), .ref 16385] _ [] rfl trivial ?_
  refine AR.top (y := nI ((ne + 1))) (by first | rfl | (simp only [nI_add, pk_mul]; first | done | rfl)) ?_
  refine AR.ast (n := 0) (e := 5) (h1 := (hp o0 a0 t0 p0 (mo (upd (upd (upd (upd (upd (upd (upd (upd (upd (upd (upd (upd (upd z ((95 + (4 * w)) + 2) (nI (0))) ((11 + (7 * v)) + 5) ((-1) + (nI (1)))) ((11 + (7 * v)) + 6) (wayZ z v r)) ((111 + (4 * r)) + 0) (z (11 + 7 * v + 0))) ((111 + (4 * r)) + 1) (wayZ z v r)) ((111 + (4 * r)) + 2) ((z ((111 + (4 * r)) + 2)) + (nI (1)))) ((111 + (4 * r)) + 3) ((z ((111 + (4 * r)) + 3)) + (wayZ z v r))) (123 + (5 * ne)) (z 3)) ((123 + (5 * ne)) + 1) (nI (r))) ((123 + (5 * ne)) + 2) (nI (v))) ((123 + (5 * ne)) + 3) (-1)) ((123 + (5 * ne)) + 4) (wayZ z v r)) 5 (nI ((ne + 1)))) sa ro te fr to un ga pi be bm en sta sv ln th hh) u0 l0)) ok_X5_goes_221 (by first | rfl | (simp only [nI_add, pk_mul]; first | done | rfl)) rfl rfl (by omega) (by decide) rfl ?_
  refine AR.run g_X5_goes_222_1 224 [some (.ref 16384), some (.int (nI (v))), some (.int (-1)), some (.int (nI (r))), some (.int (wayZ z v r)), some (.int (nI (w))), some (.int ((nI (123)) + ((nI (5)) * (nI (ne)))))] [.int (wayZ z v r)] _ [] rfl trivial ?_
  have e2_0 : F_5goesB v r z = (wayZ z v r) := by rw [F_5goesB]
  have e2_1 : F_5goesB_z v r ne w z = (upd (upd (upd (upd (upd (upd (upd (upd (upd (upd (upd (upd (upd z ((95 + (4 * w)) + 2) (nI (0))) ((11 + (7 * v)) + 5) ((-1) + (nI (1)))) ((11 + (7 * v)) + 6) (wayZ z v r)) ((111 + (4 * r)) + 0) (z (11 + 7 * v + 0))) ((111 + (4 * r)) + 1) (wayZ z v r)) ((111 + (4 * r)) + 2) ((z ((111 + (4 * r)) + 2)) + (nI (1)))) ((111 + (4 * r)) + 3) ((z ((111 + (4 * r)) + 3)) + (wayZ z v r))) (123 + (5 * ne)) (z 3)) ((123 + (5 * ne)) + 1) (nI (r))) ((123 + (5 * ne)) + 2) (nI (v))) ((123 + (5 * ne)) + 3) (-1)) ((123 + (5 * ne)) + 4) (wayZ z v r)) 5 (nI ((ne + 1)))) := by rw [F_5goesB_z]
  exact AR.retI dc_X5_goes_224 rfl e2_0.symm (by rw [e2_1])
def F_5goesA (v : Nat) (r : Nat) (z : Nat → Int32) : Int32 := (wayZ z v r)
def F_5goesA_z (v : Nat) (c : Nat) (r : Nat) (ne : Nat) (z : Nat → Int32) : Nat → Int32 := (upd (upd (upd (upd (upd (upd (upd (upd (upd (upd (upd (upd (upd z ((95 + (4 * c)) + 2) (nI (0))) ((11 + (7 * v)) + 5) (nI ((c + 1)))) ((11 + (7 * v)) + 6) (wayZ z v r)) ((111 + (4 * r)) + 0) (z (11 + 7 * v + 0))) ((111 + (4 * r)) + 1) (wayZ z v r)) ((111 + (4 * r)) + 2) ((z ((111 + (4 * r)) + 2)) + (nI (1)))) ((111 + (4 * r)) + 3) ((z ((111 + (4 * r)) + 3)) + (wayZ z v r))) (123 + (5 * ne)) (z 3)) ((123 + (5 * ne)) + 1) (nI (r))) ((123 + (5 * ne)) + 2) (nI (v))) ((123 + (5 * ne)) + 3) (nI (c))) ((123 + (5 * ne)) + 4) (wayZ z v r)) 5 (nI ((ne + 1))))
theorem g_X5_goes_14_9 : ab_oks M_X5_goes [(14, .iconst 1, 1, 0, 0, 0, .int (nI (1))), (15, .isub, 1, 0, 0, 0, .null), (16, .istore 5, 2, 5, 0, 0, .null), (18, .aload_n 0, 1, 0, 0, 0, .null), (19, .getfield 7, 3, 5, 0, 930, .null), (22, .bipush 95, 2, 0, 0, 0, .int (nI (95))), (24, .iconst 4, 1, 0, 0, 0, .int (nI (4))), (25, .iload_n 2, 1, 2, 0, 0, .null), (26, .iconst (-1), 1, 0, 0, 0, .int (-1))] = true := by decide +kernel
theorem g_X5_goes_35_6 : ab_oks M_X5_goes [(35, .iload_n 2, 1, 2, 0, 0, .null), (36, .imul, 1, 0, 0, 0, .null), (37, .iadd, 1, 0, 0, 0, .null), (38, .iconst 2, 1, 0, 0, 0, .int (nI (2))), (39, .iadd, 1, 0, 0, 0, .null), (40, .iconst 0, 1, 0, 0, 0, .int (nI (0)))] = true := by decide +kernel
set_option maxRecDepth 100000 in
set_option maxHeartbeats 4000000 in
theorem s_5goesA {E : AE} (d : Nat) (v : Nat) (c : Nat) (r : Nat) {nv : Nat} {nc : Nat} {nr : Nat} {ne : Nat}  {o0 a0 t0 p0 u0 l0 : List AC} {z sa ro te fr to un ga pi be : Nat → Int32} {bm en sta sv ln th : Int32} {hh : Int64} (hZ : ZI z nv nc nr ne) (hv : v < 12) (hc : c < 4) (hr : r < 3) (hne60 : ne < 60) : CT E M_X5_goes (d + 2) [.ref 16384, .int (nI (v)), .int (nI (c)), .int (nI (r))] (hp o0 a0 t0 p0 (mo z sa ro te fr to un ga pi be bm en sta sv ln th hh) u0 l0) (.inl (some (.int (F_5goesA v r z)))) (hp o0 a0 t0 p0 (mo (F_5goesA_z v c r ne z) sa ro te fr to un ga pi be bm en sta sv ln th hh) u0 l0) 0 0 := by
  obtain ⟨⟨hnv, h12⟩, ⟨hnc, h4⟩, ⟨hnr, h3⟩, ⟨hne, h60⟩, hLV⟩ := id hZ
  refine CT.of (L := [some (.ref 16384), some (.int (nI (v))), some (.int (nI (c))), some (.int (nI (r))), none, none, none]) rfl rfl ?_
  refine AR.run g_X5_goes_0_3 3 [some (.ref 16384), some (.int (nI (v))), some (.int (nI (c))), some (.int (nI (r))), none, none, none] [.int (nI (r)), .int (nI (v)), .ref 16384] _ [] rfl trivial ?_
  refine AR.callV1 (16384) [.int (nI (v)), .int (nI (r))] [] lk_5_82 dc_X5_goes_3 rfl rfl (s_way _ v r (by omega) (by omega)) (by first | rfl | (simp only [nI_add, pk_mul]; first | done | rfl)) rfl ?_
  refine AR.run g_X5_goes_6_4 11 [some (.ref 16384), some (.int (nI (v))), some (.int (nI (c))), some (.int (nI (r))), some (.int (wayZ z v r)), none, none] [.int (nI (5)), .int (nI (v)), .ref 16384] _ [] rfl trivial ?_
  refine AR.callV1 (16384) [.int (nI (v)), .int (nI (5))] [] lk_5_62 dc_X5_goes_11 rfl rfl (s_ofVolume _ v 5 (by omega) (by omega)) (by first | rfl | (simp only [nI_add, pk_mul]; first | done | rfl)) rfl ?_
  refine AR.run g_X5_goes_14_9 27 [some (.ref 16384), some (.int (nI (v))), some (.int (nI (c))), some (.int (nI (r))), some (.int (wayZ z v r)), some (.int ((z (11 + 7 * v + 5)) - (nI (1)))), none] [.int (-1), .int (nI (c)), .int (nI (4)), .int (nI (95)), .ref 16385] _ [] rfl trivial ?_
  refine AR.ne2 (tgt := 35) dc_X5_goes_27 (by decide) (fun c27_1 => ?_) (fun c27_1 => absurd c27_1 (nI_m1 (by omega)))
  refine AR.run g_X5_goes_35_6 41 [some (.ref 16384), some (.int (nI (v))), some (.int (nI (c))), some (.int (nI (r))), some (.int (wayZ z v r)), some (.int ((z (11 + 7 * v + 5)) - (nI (1)))), none] [.int (nI (0)), .int (((nI (95)) + ((nI (4)) * (nI (c)))) + (nI (2))), .ref 16385] _ [] rfl trivial ?_
  refine AR.ast (n := 0) (e := ((95 + (4 * c)) + 2)) (h1 := (hp o0 a0 t0 p0 (mo (upd z ((95 + (4 * c)) + 2) (nI (0))) sa ro te fr to un ga pi be bm en sta sv ln th hh) u0 l0)) ok_X5_goes_41 (by first | rfl | (simp only [nI_add, pk_mul]; first | done | rfl)) rfl rfl (by omega) (by decide) rfl ?_
  refine AR.run g_X5_goes_42_12 58 [some (.ref 16384), some (.int (nI (v))), some (.int (nI (c))), some (.int (nI (r))), some (.int (wayZ z v r)), some (.int ((z (11 + 7 * v + 5)) - (nI (1)))), none] [.int ((nI (c)) + (nI (1))), .int (((nI (11)) + ((nI (7)) * (nI (v)))) + (nI (5))), .ref 16385] _ [] rfl trivial ?_
  refine AR.top (y := nI ((c + 1))) (by first | rfl | (simp only [nI_add, pk_mul]; first | done | rfl)) ?_
  refine AR.ast (n := 0) (e := ((11 + (7 * v)) + 5)) (h1 := (hp o0 a0 t0 p0 (mo (upd (upd z ((95 + (4 * c)) + 2) (nI (0))) ((11 + (7 * v)) + 5) (nI ((c + 1)))) sa ro te fr to un ga pi be bm en sta sv ln th hh) u0 l0)) ok_X5_goes_58 (by first | rfl | (simp only [nI_add, pk_mul]; first | done | rfl)) rfl rfl (by omega) (by decide) rfl ?_
  refine AR.run g_X5_goes_59_10 75 [some (.ref 16384), some (.int (nI (v))), some (.int (nI (c))), some (.int (nI (r))), some (.int (wayZ z v r)), some (.int ((z (11 + 7 * v + 5)) - (nI (1)))), none] [.int (wayZ z v r), .int (((nI (11)) + ((nI (7)) * (nI (v)))) + (nI (6))), .ref 16385] _ [] rfl trivial ?_
  refine AR.ast (n := 0) (e := ((11 + (7 * v)) + 6)) (h1 := (hp o0 a0 t0 p0 (mo (upd (upd (upd z ((95 + (4 * c)) + 2) (nI (0))) ((11 + (7 * v)) + 5) (nI ((c + 1)))) ((11 + (7 * v)) + 6) (wayZ z v r)) sa ro te fr to un ga pi be bm en sta sv ln th hh) u0 l0)) ok_X5_goes_75 (by first | rfl | (simp only [nI_add, pk_mul]; first | done | rfl)) rfl rfl (by omega) (by decide) rfl ?_
  refine AR.run g_X5_goes_76_12 91 [some (.ref 16384), some (.int (nI (v))), some (.int (nI (c))), some (.int (nI (r))), some (.int (wayZ z v r)), some (.int ((z (11 + 7 * v + 5)) - (nI (1)))), none] [.int (nI (0)), .int (nI (v)), .ref 16384, .int (((nI (111)) + ((nI (4)) * (nI (r)))) + (nI (0))), .ref 16385] _ [] rfl trivial ?_
  refine AR.callV1 (16384) [.int (nI (v)), .int (nI (0))] [.int (nI (((111 + (4 * r)) + 0))), .ref 16385] lk_5_62 dc_X5_goes_91 rfl rfl (s_ofVolume _ v 0 (by omega) (by omega)) (by first | rfl | (simp only [nI_add, pk_mul]; first | done | rfl)) rfl ?_
  refine AR.top (y := z (11 + 7 * v + 0)) (by rw [rn (by omega), rn (by omega), rn (by omega)]) ?_
  refine AR.ast (n := 0) (e := ((111 + (4 * r)) + 0)) (h1 := (hp o0 a0 t0 p0 (mo (upd (upd (upd (upd z ((95 + (4 * c)) + 2) (nI (0))) ((11 + (7 * v)) + 5) (nI ((c + 1)))) ((11 + (7 * v)) + 6) (wayZ z v r)) ((111 + (4 * r)) + 0) (z (11 + 7 * v + 0))) sa ro te fr to un ga pi be bm en sta sv ln th hh) u0 l0)) ok_X5_goes_94 (by first | rfl | (simp only [nI_add, pk_mul]; first | done | rfl)) rfl rfl (by omega) (by decide) rfl ?_
  refine AR.run g_X5_goes_95_10 109 [some (.ref 16384), some (.int (nI (v))), some (.int (nI (c))), some (.int (nI (r))), some (.int (wayZ z v r)), some (.int ((z (11 + 7 * v + 5)) - (nI (1)))), none] [.int (wayZ z v r), .int (((nI (111)) + ((nI (4)) * (nI (r)))) + (nI (1))), .ref 16385] _ [] rfl trivial ?_
  refine AR.ast (n := 0) (e := ((111 + (4 * r)) + 1)) (h1 := (hp o0 a0 t0 p0 (mo (upd (upd (upd (upd (upd z ((95 + (4 * c)) + 2) (nI (0))) ((11 + (7 * v)) + 5) (nI ((c + 1)))) ((11 + (7 * v)) + 6) (wayZ z v r)) ((111 + (4 * r)) + 0) (z (11 + 7 * v + 0))) ((111 + (4 * r)) + 1) (wayZ z v r)) sa ro te fr to un ga pi be bm en sta sv ln th hh) u0 l0)) ok_X5_goes_109 (by first | rfl | (simp only [nI_add, pk_mul]; first | done | rfl)) rfl rfl (by omega) (by decide) rfl ?_
  refine AR.run g_X5_goes_110_10 123 [some (.ref 16384), some (.int (nI (v))), some (.int (nI (c))), some (.int (nI (r))), some (.int (wayZ z v r)), some (.int ((z (11 + 7 * v + 5)) - (nI (1)))), none] [.int (((nI (111)) + ((nI (4)) * (nI (r)))) + (nI (2))), .ref 16385, .int (((nI (111)) + ((nI (4)) * (nI (r)))) + (nI (2))), .ref 16385] _ [] rfl trivial ?_
  refine AR.ald (n := 0) (e := ((111 + (4 * r)) + 2)) ok_X5_goes_123 (by first | rfl | (simp only [nI_add, pk_mul]; first | done | rfl)) rfl (by omega) (by first | decide | omega) ?_
  refine AR.top (y := z ((111 + (4 * r)) + 2)) (by rw [rn (by omega), rn (by omega), rn (by omega), rn (by omega), rn (by omega)]) ?_
  refine AR.run g_X5_goes_124_2 126 [some (.ref 16384), some (.int (nI (v))), some (.int (nI (c))), some (.int (nI (r))), some (.int (wayZ z v r)), some (.int ((z (11 + 7 * v + 5)) - (nI (1)))), none] [.int ((z ((111 + (4 * r)) + 2)) + (nI (1))), .int (((nI (111)) + ((nI (4)) * (nI (r)))) + (nI (2))), .ref 16385] _ [] rfl trivial ?_
  refine AR.ast (n := 0) (e := ((111 + (4 * r)) + 2)) (h1 := (hp o0 a0 t0 p0 (mo (upd (upd (upd (upd (upd (upd z ((95 + (4 * c)) + 2) (nI (0))) ((11 + (7 * v)) + 5) (nI ((c + 1)))) ((11 + (7 * v)) + 6) (wayZ z v r)) ((111 + (4 * r)) + 0) (z (11 + 7 * v + 0))) ((111 + (4 * r)) + 1) (wayZ z v r)) ((111 + (4 * r)) + 2) ((z ((111 + (4 * r)) + 2)) + (nI (1)))) sa ro te fr to un ga pi be bm en sta sv ln th hh) u0 l0)) ok_X5_goes_126 (by first | rfl | (simp only [nI_add, pk_mul]; first | done | rfl)) rfl rfl (by omega) (by decide) rfl ?_
  refine AR.run g_X5_goes_127_10 140 [some (.ref 16384), some (.int (nI (v))), some (.int (nI (c))), some (.int (nI (r))), some (.int (wayZ z v r)), some (.int ((z (11 + 7 * v + 5)) - (nI (1)))), none] [.int (((nI (111)) + ((nI (4)) * (nI (r)))) + (nI (3))), .ref 16385, .int (((nI (111)) + ((nI (4)) * (nI (r)))) + (nI (3))), .ref 16385] _ [] rfl trivial ?_
  refine AR.ald (n := 0) (e := ((111 + (4 * r)) + 3)) ok_X5_goes_140 (by first | rfl | (simp only [nI_add, pk_mul]; first | done | rfl)) rfl (by omega) (by first | decide | omega) ?_
  refine AR.top (y := z ((111 + (4 * r)) + 3)) (by rw [rn (by omega), rn (by omega), rn (by omega), rn (by omega), rn (by omega), rn (by omega)]) ?_
  refine AR.run g_X5_goes_141_2 144 [some (.ref 16384), some (.int (nI (v))), some (.int (nI (c))), some (.int (nI (r))), some (.int (wayZ z v r)), some (.int ((z (11 + 7 * v + 5)) - (nI (1)))), none] [.int ((z ((111 + (4 * r)) + 3)) + (wayZ z v r)), .int (((nI (111)) + ((nI (4)) * (nI (r)))) + (nI (3))), .ref 16385] _ [] rfl trivial ?_
  refine AR.ast (n := 0) (e := ((111 + (4 * r)) + 3)) (h1 := (hp o0 a0 t0 p0 (mo (upd (upd (upd (upd (upd (upd (upd z ((95 + (4 * c)) + 2) (nI (0))) ((11 + (7 * v)) + 5) (nI ((c + 1)))) ((11 + (7 * v)) + 6) (wayZ z v r)) ((111 + (4 * r)) + 0) (z (11 + 7 * v + 0))) ((111 + (4 * r)) + 1) (wayZ z v r)) ((111 + (4 * r)) + 2) ((z ((111 + (4 * r)) + 2)) + (nI (1)))) ((111 + (4 * r)) + 3) ((z ((111 + (4 * r)) + 3)) + (wayZ z v r))) sa ro te fr to un ga pi be bm en sta sv ln th hh) u0 l0)) ok_X5_goes_144 (by first | rfl | (simp only [nI_add, pk_mul]; first | done | rfl)) rfl rfl (by omega) (by decide) rfl ?_
  refine AR.run g_X5_goes_145_5 153 [some (.ref 16384), some (.int (nI (v))), some (.int (nI (c))), some (.int (nI (r))), some (.int (wayZ z v r)), some (.int ((z (11 + 7 * v + 5)) - (nI (1)))), none] [.int (nI (5)), .ref 16385, .int (nI (5)), .int (nI (123))] _ [] rfl trivial ?_
  refine AR.ald (n := 0) (e := 5) ok_X5_goes_153 (by first | rfl | (simp only [nI_add, pk_mul]; first | done | rfl)) rfl (by omega) (by first | decide | omega) ?_
  refine AR.top (y := z 5) (by rw [rn (by omega), rn (by omega), rn (by omega), rn (by omega), rn (by omega), rn (by omega), rn (by omega)]) ?_
  refine AR.top hZ.2.2.2.1.1 ?_
  refine AR.run g_X5_goes_154_9 169 [some (.ref 16384), some (.int (nI (v))), some (.int (nI (c))), some (.int (nI (r))), some (.int (wayZ z v r)), some (.int ((z (11 + 7 * v + 5)) - (nI (1)))), some (.int ((nI (123)) + ((nI (5)) * (nI (ne)))))] [.int (nI (3)), .ref 16385, .int ((nI (123)) + ((nI (5)) * (nI (ne)))), .ref 16385] _ [] rfl trivial ?_
  refine AR.ald (n := 0) (e := 3) ok_X5_goes_169 (by first | rfl | (simp only [nI_add, pk_mul]; first | done | rfl)) rfl (by omega) (by first | decide | omega) ?_
  refine AR.top (y := z 3) (by rw [rn (by omega), rn (by omega), rn (by omega), rn (by omega), rn (by omega), rn (by omega), rn (by omega)]) ?_
  refine AR.ast (n := 0) (e := (123 + (5 * ne))) (h1 := (hp o0 a0 t0 p0 (mo (upd (upd (upd (upd (upd (upd (upd (upd z ((95 + (4 * c)) + 2) (nI (0))) ((11 + (7 * v)) + 5) (nI ((c + 1)))) ((11 + (7 * v)) + 6) (wayZ z v r)) ((111 + (4 * r)) + 0) (z (11 + 7 * v + 0))) ((111 + (4 * r)) + 1) (wayZ z v r)) ((111 + (4 * r)) + 2) ((z ((111 + (4 * r)) + 2)) + (nI (1)))) ((111 + (4 * r)) + 3) ((z ((111 + (4 * r)) + 3)) + (wayZ z v r))) (123 + (5 * ne)) (z 3)) sa ro te fr to un ga pi be bm en sta sv ln th hh) u0 l0)) ok_X5_goes_170 (by first | rfl | (simp only [nI_add, pk_mul]; first | done | rfl)) rfl rfl (by omega) (by decide) rfl ?_
  refine AR.run g_X5_goes_171_6 180 [some (.ref 16384), some (.int (nI (v))), some (.int (nI (c))), some (.int (nI (r))), some (.int (wayZ z v r)), some (.int ((z (11 + 7 * v + 5)) - (nI (1)))), some (.int ((nI (123)) + ((nI (5)) * (nI (ne)))))] [.int (nI (r)), .int (((nI (123)) + ((nI (5)) * (nI (ne)))) + (nI (1))), .ref 16385] _ [] rfl trivial ?_
  refine AR.ast (n := 0) (e := ((123 + (5 * ne)) + 1)) (h1 := (hp o0 a0 t0 p0 (mo (upd (upd (upd (upd (upd (upd (upd (upd (upd z ((95 + (4 * c)) + 2) (nI (0))) ((11 + (7 * v)) + 5) (nI ((c + 1)))) ((11 + (7 * v)) + 6) (wayZ z v r)) ((111 + (4 * r)) + 0) (z (11 + 7 * v + 0))) ((111 + (4 * r)) + 1) (wayZ z v r)) ((111 + (4 * r)) + 2) ((z ((111 + (4 * r)) + 2)) + (nI (1)))) ((111 + (4 * r)) + 3) ((z ((111 + (4 * r)) + 3)) + (wayZ z v r))) (123 + (5 * ne)) (z 3)) ((123 + (5 * ne)) + 1) (nI (r))) sa ro te fr to un ga pi be bm en sta sv ln th hh) u0 l0)) ok_X5_goes_180 (by first | rfl | (simp only [nI_add, pk_mul]; first | done | rfl)) rfl rfl (by omega) (by decide) rfl ?_
  refine AR.run g_X5_goes_181_6 190 [some (.ref 16384), some (.int (nI (v))), some (.int (nI (c))), some (.int (nI (r))), some (.int (wayZ z v r)), some (.int ((z (11 + 7 * v + 5)) - (nI (1)))), some (.int ((nI (123)) + ((nI (5)) * (nI (ne)))))] [.int (nI (v)), .int (((nI (123)) + ((nI (5)) * (nI (ne)))) + (nI (2))), .ref 16385] _ [] rfl trivial ?_
  refine AR.ast (n := 0) (e := ((123 + (5 * ne)) + 2)) (h1 := (hp o0 a0 t0 p0 (mo (upd (upd (upd (upd (upd (upd (upd (upd (upd (upd z ((95 + (4 * c)) + 2) (nI (0))) ((11 + (7 * v)) + 5) (nI ((c + 1)))) ((11 + (7 * v)) + 6) (wayZ z v r)) ((111 + (4 * r)) + 0) (z (11 + 7 * v + 0))) ((111 + (4 * r)) + 1) (wayZ z v r)) ((111 + (4 * r)) + 2) ((z ((111 + (4 * r)) + 2)) + (nI (1)))) ((111 + (4 * r)) + 3) ((z ((111 + (4 * r)) + 3)) + (wayZ z v r))) (123 + (5 * ne)) (z 3)) ((123 + (5 * ne)) + 1) (nI (r))) ((123 + (5 * ne)) + 2) (nI (v))) sa ro te fr to un ga pi be bm en sta sv ln th hh) u0 l0)) ok_X5_goes_190 (by first | rfl | (simp only [nI_add, pk_mul]; first | done | rfl)) rfl rfl (by omega) (by decide) rfl ?_
  refine AR.run g_X5_goes_191_6 200 [some (.ref 16384), some (.int (nI (v))), some (.int (nI (c))), some (.int (nI (r))), some (.int (wayZ z v r)), some (.int ((z (11 + 7 * v + 5)) - (nI (1)))), some (.int ((nI (123)) + ((nI (5)) * (nI (ne)))))] [.int (nI (c)), .int (((nI (123)) + ((nI (5)) * (nI (ne)))) + (nI (3))), .ref 16385] _ [] rfl trivial ?_
  refine AR.ast (n := 0) (e := ((123 + (5 * ne)) + 3)) (h1 := (hp o0 a0 t0 p0 (mo (upd (upd (upd (upd (upd (upd (upd (upd (upd (upd (upd z ((95 + (4 * c)) + 2) (nI (0))) ((11 + (7 * v)) + 5) (nI ((c + 1)))) ((11 + (7 * v)) + 6) (wayZ z v r)) ((111 + (4 * r)) + 0) (z (11 + 7 * v + 0))) ((111 + (4 * r)) + 1) (wayZ z v r)) ((111 + (4 * r)) + 2) ((z ((111 + (4 * r)) + 2)) + (nI (1)))) ((111 + (4 * r)) + 3) ((z ((111 + (4 * r)) + 3)) + (wayZ z v r))) (123 + (5 * ne)) (z 3)) ((123 + (5 * ne)) + 1) (nI (r))) ((123 + (5 * ne)) + 2) (nI (v))) ((123 + (5 * ne)) + 3) (nI (c))) sa ro te fr to un ga pi be bm en sta sv ln th hh) u0 l0)) ok_X5_goes_200 (by first | rfl | (simp only [nI_add, pk_mul]; first | done | rfl)) rfl rfl (by omega) (by decide) rfl ?_
  refine AR.run g_X5_goes_201_6 211 [some (.ref 16384), some (.int (nI (v))), some (.int (nI (c))), some (.int (nI (r))), some (.int (wayZ z v r)), some (.int ((z (11 + 7 * v + 5)) - (nI (1)))), some (.int ((nI (123)) + ((nI (5)) * (nI (ne)))))] [.int (wayZ z v r), .int (((nI (123)) + ((nI (5)) * (nI (ne)))) + (nI (4))), .ref 16385] _ [] rfl trivial ?_
  refine AR.ast (n := 0) (e := ((123 + (5 * ne)) + 4)) (h1 := (hp o0 a0 t0 p0 (mo (upd (upd (upd (upd (upd (upd (upd (upd (upd (upd (upd (upd z ((95 + (4 * c)) + 2) (nI (0))) ((11 + (7 * v)) + 5) (nI ((c + 1)))) ((11 + (7 * v)) + 6) (wayZ z v r)) ((111 + (4 * r)) + 0) (z (11 + 7 * v + 0))) ((111 + (4 * r)) + 1) (wayZ z v r)) ((111 + (4 * r)) + 2) ((z ((111 + (4 * r)) + 2)) + (nI (1)))) ((111 + (4 * r)) + 3) ((z ((111 + (4 * r)) + 3)) + (wayZ z v r))) (123 + (5 * ne)) (z 3)) ((123 + (5 * ne)) + 1) (nI (r))) ((123 + (5 * ne)) + 2) (nI (v))) ((123 + (5 * ne)) + 3) (nI (c))) ((123 + (5 * ne)) + 4) (wayZ z v r)) sa ro te fr to un ga pi be bm en sta sv ln th hh) u0 l0)) ok_X5_goes_211 (by first | rfl | (simp only [nI_add, pk_mul]; first | done | rfl)) rfl rfl (by omega) (by decide) rfl ?_
  refine AR.run g_X5_goes_212_4 218 [some (.ref 16384), some (.int (nI (v))), some (.int (nI (c))), some (.int (nI (r))), some (.int (wayZ z v r)), some (.int ((z (11 + 7 * v + 5)) - (nI (1)))), some (.int ((nI (123)) + ((nI (5)) * (nI (ne)))))] [.int (nI (5)), .ref 16385, .int (nI (5)), .ref 16385] _ [] rfl trivial ?_
  refine AR.ald (n := 0) (e := 5) ok_X5_goes_218 (by first | rfl | (simp only [nI_add, pk_mul]; first | done | rfl)) rfl (by omega) (by first | decide | omega) ?_
  refine AR.top (y := z 5) (by rw [rn (by omega), rn (by omega), rn (by omega), rn (by omega), rn (by omega), rn (by omega), rn (by omega), rn (by omega), rn (by omega), rn (by omega), rn (by omega), rn (by omega)]) ?_
  refine AR.top hZ.2.2.2.1.1 ?_
  refine AR.run g_X5_goes_219_2 221 [some (.ref 16384), some (.int (nI (v))), some (.int (nI (c))), some (.int (nI (r))), some (.int (wayZ z v r)), some (.int ((z (11 + 7 * v + 5)) - (nI (1)))), some (.int ((nI (123)) + ((nI (5)) * (nI (ne)))))] [.int ((nI (ne)) + (nI (1))), .int (nI (5)), .ref 16385] _ [] rfl trivial ?_
  refine AR.top (y := nI ((ne + 1))) (by first | rfl | (simp only [nI_add, pk_mul]; first | done | rfl)) ?_
  refine AR.ast (n := 0) (e := 5) (h1 := (hp o0 a0 t0 p0 (mo (upd (upd (upd (upd (upd (upd (upd (upd (upd (upd (upd (upd (upd z ((95 + (4 * c)) + 2) (nI (0))) ((11 + (7 * v)) + 5) (nI ((c + 1)))) ((11 + (7 * v)) + 6) (wayZ z v r)) ((111 + (4 * r)) + 0) (z (11 + 7 * v + 0))) ((111 + (4 * r)) + 1) (wayZ z v r)) ((111 + (4 * r)) + 2) ((z ((111 + (4 * r)) + 2)) + (nI (1)))) ((111 + (4 * r)) + 3) ((z ((111 + (4 * r)) + 3)) + (wayZ z v r))) (123 + (5 * ne)) (z 3)) ((123 + (5 * ne)) + 1) (nI (r))) ((123 + (5 * ne)) + 2) (nI (v))) ((123 + (5 * ne)) + 3) (nI (c))) ((123 + (5 * ne)) + 4) (wayZ z v r)) 5 (nI ((ne + 1)))) sa ro te fr to un ga pi be bm en sta sv ln th hh) u0 l0)) ok_X5_goes_221 (by first | rfl | (simp only [nI_add, pk_mul]; first | done | rfl)) rfl rfl (by omega) (by decide) rfl ?_
  refine AR.run g_X5_goes_222_1 224 [some (.ref 16384), some (.int (nI (v))), some (.int (nI (c))), some (.int (nI (r))), some (.int (wayZ z v r)), some (.int ((z (11 + 7 * v + 5)) - (nI (1)))), some (.int ((nI (123)) + ((nI (5)) * (nI (ne)))))] [.int (wayZ z v r)] _ [] rfl trivial ?_
  have e2_0 : F_5goesA v r z = (wayZ z v r) := by rw [F_5goesA]
  have e2_1 : F_5goesA_z v c r ne z = (upd (upd (upd (upd (upd (upd (upd (upd (upd (upd (upd (upd (upd z ((95 + (4 * c)) + 2) (nI (0))) ((11 + (7 * v)) + 5) (nI ((c + 1)))) ((11 + (7 * v)) + 6) (wayZ z v r)) ((111 + (4 * r)) + 0) (z (11 + 7 * v + 0))) ((111 + (4 * r)) + 1) (wayZ z v r)) ((111 + (4 * r)) + 2) ((z ((111 + (4 * r)) + 2)) + (nI (1)))) ((111 + (4 * r)) + 3) ((z ((111 + (4 * r)) + 3)) + (wayZ z v r))) (123 + (5 * ne)) (z 3)) ((123 + (5 * ne)) + 1) (nI (r))) ((123 + (5 * ne)) + 2) (nI (v))) ((123 + (5 * ne)) + 3) (nI (c))) ((123 + (5 * ne)) + 4) (wayZ z v r)) 5 (nI ((ne + 1)))) := by rw [F_5goesA_z]
  exact AR.retI dc_X5_goes_224 rfl e2_0.symm (by rw [e2_1])
theorem idZ_0 {z : Nat → Int32} {nv nc nr ne c : Nat} (hZ : ZI z nv nc nr ne) (h : idZ z nv c = 0) : vo z (nI c) nv = some (voG z (nI c) nv) ∧ voG z (nI c) nv < nv ∧ nlO z (voG z (nI c) nv) (lv z (voG z (nI c) nv)) = some (nlG z (voG z (nI c) nv) (lv z (voG z (nI c) nv))) ∧ nlG z (voG z (nI c) nv) (lv z (voG z (nI c) nv)) < 40 := by
  have h40 := hZ.2.2.2.2
  cases hv : vo z (nI c) nv with
  | none =>
    unfold idZ at h
    rw [hv] at h
    dsimp only at h
    exact absurd h (by decide)
  | some v =>
    have e1 : voG z (nI c) nv = v := by unfold voG; rw [hv]; rfl
    have hvn := (vo_some hv).1
    rw [e1]
    unfold idZ at h
    rw [hv] at h
    dsimp only at h
    cases hk : nlO z v (lv z v) with
    | none =>
      rw [hk] at h
      split at h
      · exact absurd h (by decide)
      · split at h
        · exact absurd h (by decide)
        · rw [if_pos rfl] at h
          exact absurd h (by decide)
    | some k =>
      have e2 : nlG z v (lv z v) = k := by unfold nlG; rw [hk]; rfl
      rw [e2]
      have := nlB_some hk
      exact ⟨rfl, hvn, rfl, by have := (h40 v hvn).2; omega⟩
def F_5scans (c : Nat) (v : Nat) (z : Nat → Int32) : Int32 := if ((z 7) + ((z 8) * (z (11 + 7 * v + 3)))) ≤ ((z ((95 + (4 * c)) + 2)) + (nI (1))) then if ((z ((11 + (7 * v)) + 4)) + (nI (1))) < (z 9) then (nI (1)) else (nI (1)) else (nI (0))
theorem F_5scans_01 (c : Nat) (v : Nat) (z : Nat → Int32) : F_5scans c v z = nI 0 ∨ F_5scans c v z = nI 1 := by
  unfold F_5scans
  (repeat' split) <;> first | exact Or.inl rfl | exact Or.inr rfl
def F_5scans_z (c : Nat) (v : Nat) (k : Nat) (z : Nat → Int32) : Nat → Int32 := if ((z 7) + ((z 8) * (z (11 + 7 * v + 3)))) ≤ ((z ((95 + (4 * c)) + 2)) + (nI (1))) then if ((z ((11 + (7 * v)) + 4)) + (nI (1))) < (z 9) then (upd (upd (upd (upd (upd (upd z ((95 + (4 * c)) + 2) ((z ((95 + (4 * c)) + 2)) + (nI (1)))) ((95 + (4 * c)) + 2) (nI (0))) ((95 + (4 * c)) + 3) ((z ((95 + (4 * c)) + 3)) + (nI (1)))) (423 + (3 * ((40 * v) + k))) (nI (1))) ((423 + (3 * ((40 * v) + k))) + 1) ((z ((423 + (3 * ((40 * v) + k))) + 1)) + (nI (1)))) ((11 + (7 * v)) + 4) ((z ((11 + (7 * v)) + 4)) + (nI (1)))) else (upd (upd (upd (upd (upd (upd (upd (upd z ((95 + (4 * c)) + 2) ((z ((95 + (4 * c)) + 2)) + (nI (1)))) ((95 + (4 * c)) + 2) (nI (0))) ((95 + (4 * c)) + 3) ((z ((95 + (4 * c)) + 3)) + (nI (1)))) (423 + (3 * ((40 * v) + k))) (nI (1))) ((423 + (3 * ((40 * v) + k))) + 1) ((z ((423 + (3 * ((40 * v) + k))) + 1)) + (nI (1)))) ((11 + (7 * v)) + 4) ((z ((11 + (7 * v)) + 4)) + (nI (1)))) ((11 + (7 * v)) + 4) (nI (0))) ((11 + (7 * v)) + 3) ((z ((11 + (7 * v)) + 3)) + (nI (1)))) else (upd z ((95 + (4 * c)) + 2) ((z ((95 + (4 * c)) + 2)) + (nI (1))))
theorem g_X5_scans_0_2 : ab_oks M_X5_scans [(0, .aload_n 0, 1, 0, 0, 0, .null), (1, .iload_n 1, 1, 1, 0, 0, .null)] = true := by decide +kernel
theorem dc_X5_scans_2 : decode (AM.bytes M_X5_scans) 2 = .ok (.invokevirtual 69, 3) := by decide +kernel
theorem g_X5_scans_5_13 : ab_oks M_X5_scans [(5, .istore_n 2, 1, 2, 0, 0, .null), (6, .bipush 95, 2, 0, 0, 0, .int (nI (95))), (8, .iconst 4, 1, 0, 0, 0, .int (nI (4))), (9, .iload_n 1, 1, 1, 0, 0, .null), (10, .imul, 1, 0, 0, 0, .null), (11, .iadd, 1, 0, 0, 0, .null), (12, .istore_n 3, 1, 3, 0, 0, .null), (13, .aload_n 0, 1, 0, 0, 0, .null), (14, .getfield 7, 3, 5, 0, 930, .null), (17, .iload_n 3, 1, 3, 0, 0, .null), (18, .iconst 2, 1, 0, 0, 0, .int (nI (2))), (19, .iadd, 1, 0, 0, 0, .null), (20, .dup2, 1, 0, 0, 0, .null)] = true := by decide +kernel
theorem ok_X5_scans_21 : ab_ok M_X5_scans (21, .iaload, 1, 0, 0, 0, .null) = true := by decide +kernel
theorem g_X5_scans_22_2 : ab_oks M_X5_scans [(22, .iconst 1, 1, 0, 0, 0, .int (nI (1))), (23, .iadd, 1, 0, 0, 0, .null)] = true := by decide +kernel
theorem ok_X5_scans_24 : ab_ok M_X5_scans (24, .iastore, 1, 0, 0, 0, .null) = true := by decide +kernel
theorem g_X5_scans_25_5 : ab_oks M_X5_scans [(25, .aload_n 0, 1, 0, 0, 0, .null), (26, .getfield 7, 3, 5, 0, 930, .null), (29, .iload_n 3, 1, 3, 0, 0, .null), (30, .iconst 2, 1, 0, 0, 0, .int (nI (2))), (31, .iadd, 1, 0, 0, 0, .null)] = true := by decide +kernel
theorem ok_X5_scans_32 : ab_ok M_X5_scans (32, .iaload, 1, 0, 0, 0, .null) = true := by decide +kernel
theorem g_X5_scans_33_3 : ab_oks M_X5_scans [(33, .aload_n 0, 1, 0, 0, 0, .null), (34, .getfield 7, 3, 5, 0, 930, .null), (37, .bipush 7, 2, 0, 0, 0, .int (nI (7)))] = true := by decide +kernel
theorem ok_X5_scans_39 : ab_ok M_X5_scans (39, .iaload, 1, 0, 0, 0, .null) = true := by decide +kernel
theorem g_X5_scans_40_3 : ab_oks M_X5_scans [(40, .aload_n 0, 1, 0, 0, 0, .null), (41, .getfield 7, 3, 5, 0, 930, .null), (44, .bipush 8, 2, 0, 0, 0, .int (nI (8)))] = true := by decide +kernel
theorem ok_X5_scans_46 : ab_ok M_X5_scans (46, .iaload, 1, 0, 0, 0, .null) = true := by decide +kernel
theorem g_X5_scans_47_3 : ab_oks M_X5_scans [(47, .aload_n 0, 1, 0, 0, 0, .null), (48, .iload_n 2, 1, 2, 0, 0, .null), (49, .iconst 3, 1, 0, 0, 0, .int (nI (3)))] = true := by decide +kernel
theorem dc_X5_scans_50 : decode (AM.bytes M_X5_scans) 50 = .ok (.invokevirtual 62, 3) := by decide +kernel
theorem g_X5_scans_53_2 : ab_oks M_X5_scans [(53, .imul, 1, 0, 0, 0, .null), (54, .iadd, 1, 0, 0, 0, .null)] = true := by decide +kernel
theorem dc_X5_scans_55 : decode (AM.bytes M_X5_scans) 55 = .ok (.if_icmp .ge 5, 3) := by decide +kernel
theorem g_X5_scans_60_7 : ab_oks M_X5_scans [(60, .sipush 423, 3, 0, 0, 0, .int (nI (423))), (63, .iconst 3, 1, 0, 0, 0, .int (nI (3))), (64, .bipush 40, 2, 0, 0, 0, .int (nI (40))), (66, .iload_n 2, 1, 2, 0, 0, .null), (67, .imul, 1, 0, 0, 0, .null), (68, .aload_n 0, 1, 0, 0, 0, .null), (69, .iload_n 2, 1, 2, 0, 0, .null)] = true := by decide +kernel
theorem dc_X5_scans_70 : decode (AM.bytes M_X5_scans) 70 = .ok (.invokevirtual 75, 3) := by decide +kernel
theorem g_X5_scans_73_10 : ab_oks M_X5_scans [(73, .iadd, 1, 0, 0, 0, .null), (74, .imul, 1, 0, 0, 0, .null), (75, .iadd, 1, 0, 0, 0, .null), (76, .istore 4, 2, 4, 0, 0, .null), (78, .aload_n 0, 1, 0, 0, 0, .null), (79, .getfield 7, 3, 5, 0, 930, .null), (82, .iload_n 3, 1, 3, 0, 0, .null), (83, .iconst 2, 1, 0, 0, 0, .int (nI (2))), (84, .iadd, 1, 0, 0, 0, .null), (85, .iconst 0, 1, 0, 0, 0, .int (nI (0)))] = true := by decide +kernel
theorem ok_X5_scans_86 : ab_ok M_X5_scans (86, .iastore, 1, 0, 0, 0, .null) = true := by decide +kernel
theorem g_X5_scans_87_6 : ab_oks M_X5_scans [(87, .aload_n 0, 1, 0, 0, 0, .null), (88, .getfield 7, 3, 5, 0, 930, .null), (91, .iload_n 3, 1, 3, 0, 0, .null), (92, .iconst 3, 1, 0, 0, 0, .int (nI (3))), (93, .iadd, 1, 0, 0, 0, .null), (94, .dup2, 1, 0, 0, 0, .null)] = true := by decide +kernel
theorem ok_X5_scans_95 : ab_ok M_X5_scans (95, .iaload, 1, 0, 0, 0, .null) = true := by decide +kernel
theorem g_X5_scans_96_2 : ab_oks M_X5_scans [(96, .iconst 1, 1, 0, 0, 0, .int (nI (1))), (97, .iadd, 1, 0, 0, 0, .null)] = true := by decide +kernel
theorem ok_X5_scans_98 : ab_ok M_X5_scans (98, .iastore, 1, 0, 0, 0, .null) = true := by decide +kernel
theorem g_X5_scans_99_4 : ab_oks M_X5_scans [(99, .aload_n 0, 1, 0, 0, 0, .null), (100, .getfield 7, 3, 5, 0, 930, .null), (103, .iload 4, 2, 4, 0, 0, .null), (105, .iconst 1, 1, 0, 0, 0, .int (nI (1)))] = true := by decide +kernel
theorem ok_X5_scans_106 : ab_ok M_X5_scans (106, .iastore, 1, 0, 0, 0, .null) = true := by decide +kernel
theorem g_X5_scans_107_6 : ab_oks M_X5_scans [(107, .aload_n 0, 1, 0, 0, 0, .null), (108, .getfield 7, 3, 5, 0, 930, .null), (111, .iload 4, 2, 4, 0, 0, .null), (113, .iconst 1, 1, 0, 0, 0, .int (nI (1))), (114, .iadd, 1, 0, 0, 0, .null), (115, .dup2, 1, 0, 0, 0, .null)] = true := by decide +kernel
theorem ok_X5_scans_116 : ab_ok M_X5_scans (116, .iaload, 1, 0, 0, 0, .null) = true := by decide +kernel
theorem g_X5_scans_117_2 : ab_oks M_X5_scans [(117, .iconst 1, 1, 0, 0, 0, .int (nI (1))), (118, .iadd, 1, 0, 0, 0, .null)] = true := by decide +kernel
theorem ok_X5_scans_119 : ab_ok M_X5_scans (119, .iastore, 1, 0, 0, 0, .null) = true := by decide +kernel
theorem g_X5_scans_120_10 : ab_oks M_X5_scans [(120, .aload_n 0, 1, 0, 0, 0, .null), (121, .getfield 7, 3, 5, 0, 930, .null), (124, .bipush 11, 2, 0, 0, 0, .int (nI (11))), (126, .bipush 7, 2, 0, 0, 0, .int (nI (7))), (128, .iload_n 2, 1, 2, 0, 0, .null), (129, .imul, 1, 0, 0, 0, .null), (130, .iadd, 1, 0, 0, 0, .null), (131, .iconst 4, 1, 0, 0, 0, .int (nI (4))), (132, .iadd, 1, 0, 0, 0, .null), (133, .dup2, 1, 0, 0, 0, .null)] = true := by decide +kernel
theorem ok_X5_scans_134 : ab_ok M_X5_scans (134, .iaload, 1, 0, 0, 0, .null) = true := by decide +kernel
theorem g_X5_scans_135_2 : ab_oks M_X5_scans [(135, .iconst 1, 1, 0, 0, 0, .int (nI (1))), (136, .iadd, 1, 0, 0, 0, .null)] = true := by decide +kernel
theorem ok_X5_scans_137 : ab_ok M_X5_scans (137, .iastore, 1, 0, 0, 0, .null) = true := by decide +kernel
theorem g_X5_scans_138_3 : ab_oks M_X5_scans [(138, .aload_n 0, 1, 0, 0, 0, .null), (139, .iload_n 2, 1, 2, 0, 0, .null), (140, .iconst 4, 1, 0, 0, 0, .int (nI (4)))] = true := by decide +kernel
theorem dc_X5_scans_141 : decode (AM.bytes M_X5_scans) 141 = .ok (.invokevirtual 62, 3) := by decide +kernel
theorem g_X5_scans_144_3 : ab_oks M_X5_scans [(144, .aload_n 0, 1, 0, 0, 0, .null), (145, .getfield 7, 3, 5, 0, 930, .null), (148, .bipush 9, 2, 0, 0, 0, .int (nI (9)))] = true := by decide +kernel
theorem ok_X5_scans_150 : ab_ok M_X5_scans (150, .iaload, 1, 0, 0, 0, .null) = true := by decide +kernel
theorem dc_X5_scans_151 : decode (AM.bytes M_X5_scans) 151 = .ok (.if_icmp .lt 36, 3) := by decide +kernel
theorem g_X5_scans_187_1 : ab_oks M_X5_scans [(187, .iconst 1, 1, 0, 0, 0, .int (nI (1)))] = true := by decide +kernel
theorem dc_X5_scans_188 : decode (AM.bytes M_X5_scans) 188 = .ok (.ireturn, 1) := by decide +kernel
theorem g_X5_scans_154_10 : ab_oks M_X5_scans [(154, .aload_n 0, 1, 0, 0, 0, .null), (155, .getfield 7, 3, 5, 0, 930, .null), (158, .bipush 11, 2, 0, 0, 0, .int (nI (11))), (160, .bipush 7, 2, 0, 0, 0, .int (nI (7))), (162, .iload_n 2, 1, 2, 0, 0, .null), (163, .imul, 1, 0, 0, 0, .null), (164, .iadd, 1, 0, 0, 0, .null), (165, .iconst 4, 1, 0, 0, 0, .int (nI (4))), (166, .iadd, 1, 0, 0, 0, .null), (167, .iconst 0, 1, 0, 0, 0, .int (nI (0)))] = true := by decide +kernel
theorem ok_X5_scans_168 : ab_ok M_X5_scans (168, .iastore, 1, 0, 0, 0, .null) = true := by decide +kernel
theorem g_X5_scans_169_10 : ab_oks M_X5_scans [(169, .aload_n 0, 1, 0, 0, 0, .null), (170, .getfield 7, 3, 5, 0, 930, .null), (173, .bipush 11, 2, 0, 0, 0, .int (nI (11))), (175, .bipush 7, 2, 0, 0, 0, .int (nI (7))), (177, .iload_n 2, 1, 2, 0, 0, .null), (178, .imul, 1, 0, 0, 0, .null), (179, .iadd, 1, 0, 0, 0, .null), (180, .iconst 3, 1, 0, 0, 0, .int (nI (3))), (181, .iadd, 1, 0, 0, 0, .null), (182, .dup2, 1, 0, 0, 0, .null)] = true := by decide +kernel
theorem ok_X5_scans_183 : ab_ok M_X5_scans (183, .iaload, 1, 0, 0, 0, .null) = true := by decide +kernel
theorem g_X5_scans_184_2 : ab_oks M_X5_scans [(184, .iconst 1, 1, 0, 0, 0, .int (nI (1))), (185, .iadd, 1, 0, 0, 0, .null)] = true := by decide +kernel
theorem ok_X5_scans_186 : ab_ok M_X5_scans (186, .iastore, 1, 0, 0, 0, .null) = true := by decide +kernel
theorem g_X5_scans_58_1 : ab_oks M_X5_scans [(58, .iconst 0, 1, 0, 0, 0, .int (nI (0)))] = true := by decide +kernel
theorem dc_X5_scans_59 : decode (AM.bytes M_X5_scans) 59 = .ok (.ireturn, 1) := by decide +kernel
set_option maxRecDepth 100000 in
set_option maxHeartbeats 4000000 in
theorem s_5scans {E : AE} (d : Nat) (c : Nat) {v : Nat} {k : Nat} {nv : Nat}  {o0 a0 t0 p0 u0 l0 : List AC} {z sa ro te fr to un ga pi be : Nat → Int32} {bm en sta sv ln th : Int32} {hh : Int64} (hc : c < 4) (h0 : z 0 = nI nv) (h12 : nv ≤ 12) (hvo : vo z (nI c) nv = some v) (hv : v < 12) (hl : z (11 + 7 * v + 2) = nI (lv z v)) (h40 : lv z v ≤ 40) (hnl : nlO z v (lv z v) = some k) (hk : k < 40) : CT E M_X5_scans (d + 2) [.ref 16384, .int (nI (c))] (hp o0 a0 t0 p0 (mo z sa ro te fr to un ga pi be bm en sta sv ln th hh) u0 l0) (.inl (some (.int (F_5scans c v z)))) (hp o0 a0 t0 p0 (mo (F_5scans_z c v k z) sa ro te fr to un ga pi be bm en sta sv ln th hh) u0 l0) 0 0 := by
  refine CT.of (L := [some (.ref 16384), some (.int (nI (c))), none, none, none]) rfl rfl ?_
  refine AR.run g_X5_scans_0_2 2 [some (.ref 16384), some (.int (nI (c))), none, none, none] [.int (nI (c)), .ref 16384] _ [] rfl trivial ?_
  refine AR.callV1 (16384) [.int (nI (c))] [] lk_5_69 dc_X5_scans_2 rfl rfl (s_volumeOn _ (nI (c)) h0 h12) (by first | rfl | (simp only [nI_add, pk_mul]; first | done | rfl)) rfl ?_
  refine AR.top (congrArg oI hvo : oI (vo z (nI (c)) nv) = nI v) ?_
  refine AR.run g_X5_scans_5_13 21 [some (.ref 16384), some (.int (nI (c))), some (.int (nI (v))), some (.int ((nI (95)) + ((nI (4)) * (nI (c))))), none] [.int (((nI (95)) + ((nI (4)) * (nI (c)))) + (nI (2))), .ref 16385, .int (((nI (95)) + ((nI (4)) * (nI (c)))) + (nI (2))), .ref 16385] _ [] rfl trivial ?_
  refine AR.ald (n := 0) (e := ((95 + (4 * c)) + 2)) ok_X5_scans_21 (by first | rfl | (simp only [nI_add, pk_mul]; first | done | rfl)) rfl (by omega) (by first | decide | omega) ?_
  refine AR.run g_X5_scans_22_2 24 [some (.ref 16384), some (.int (nI (c))), some (.int (nI (v))), some (.int ((nI (95)) + ((nI (4)) * (nI (c))))), none] [.int ((z ((95 + (4 * c)) + 2)) + (nI (1))), .int (((nI (95)) + ((nI (4)) * (nI (c)))) + (nI (2))), .ref 16385] _ [] rfl trivial ?_
  refine AR.ast (n := 0) (e := ((95 + (4 * c)) + 2)) (h1 := (hp o0 a0 t0 p0 (mo (upd z ((95 + (4 * c)) + 2) ((z ((95 + (4 * c)) + 2)) + (nI (1)))) sa ro te fr to un ga pi be bm en sta sv ln th hh) u0 l0)) ok_X5_scans_24 (by first | rfl | (simp only [nI_add, pk_mul]; first | done | rfl)) rfl rfl (by omega) (by decide) rfl ?_
  refine AR.run g_X5_scans_25_5 32 [some (.ref 16384), some (.int (nI (c))), some (.int (nI (v))), some (.int ((nI (95)) + ((nI (4)) * (nI (c))))), none] [.int (((nI (95)) + ((nI (4)) * (nI (c)))) + (nI (2))), .ref 16385] _ [] rfl trivial ?_
  refine AR.ald (n := 0) (e := ((95 + (4 * c)) + 2)) ok_X5_scans_32 (by first | rfl | (simp only [nI_add, pk_mul]; first | done | rfl)) rfl (by omega) (by first | decide | omega) ?_
  refine AR.top (y := (z ((95 + (4 * c)) + 2)) + (nI (1))) (by rw [ru (by omega)]) ?_
  refine AR.run g_X5_scans_33_3 39 [some (.ref 16384), some (.int (nI (c))), some (.int (nI (v))), some (.int ((nI (95)) + ((nI (4)) * (nI (c))))), none] [.int (nI (7)), .ref 16385, .int ((z ((95 + (4 * c)) + 2)) + (nI (1)))] _ [] rfl trivial ?_
  refine AR.ald (n := 0) (e := 7) ok_X5_scans_39 (by first | rfl | (simp only [nI_add, pk_mul]; first | done | rfl)) rfl (by omega) (by first | decide | omega) ?_
  refine AR.top (y := z 7) (by rw [rn (by omega)]) ?_
  refine AR.run g_X5_scans_40_3 46 [some (.ref 16384), some (.int (nI (c))), some (.int (nI (v))), some (.int ((nI (95)) + ((nI (4)) * (nI (c))))), none] [.int (nI (8)), .ref 16385, .int (z 7), .int ((z ((95 + (4 * c)) + 2)) + (nI (1)))] _ [] rfl trivial ?_
  refine AR.ald (n := 0) (e := 8) ok_X5_scans_46 (by first | rfl | (simp only [nI_add, pk_mul]; first | done | rfl)) rfl (by omega) (by first | decide | omega) ?_
  refine AR.top (y := z 8) (by rw [rn (by omega)]) ?_
  refine AR.run g_X5_scans_47_3 50 [some (.ref 16384), some (.int (nI (c))), some (.int (nI (v))), some (.int ((nI (95)) + ((nI (4)) * (nI (c))))), none] [.int (nI (3)), .int (nI (v)), .ref 16384, .int (z 8), .int (z 7), .int ((z ((95 + (4 * c)) + 2)) + (nI (1)))] _ [] rfl trivial ?_
  refine AR.callV1 (16384) [.int (nI (v)), .int (nI (3))] [.int (z 8), .int (z 7), .int ((z ((95 + (4 * c)) + 2)) + (nI (1)))] lk_5_62 dc_X5_scans_50 rfl rfl (s_ofVolume _ v 3 (by omega) (by omega)) (by first | rfl | (simp only [nI_add, pk_mul]; first | done | rfl)) rfl ?_
  refine AR.top (y := z (11 + 7 * v + 3)) (by rw [rn (by omega)]) ?_
  refine AR.run g_X5_scans_53_2 55 [some (.ref 16384), some (.int (nI (c))), some (.int (nI (v))), some (.int ((nI (95)) + ((nI (4)) * (nI (c))))), none] [.int ((z 7) + ((z 8) * (z (11 + 7 * v + 3)))), .int ((z ((95 + (4 * c)) + 2)) + (nI (1)))] _ [] rfl trivial ?_
  refine AR.ge2 (tgt := 60) dc_X5_scans_55 (by decide) (fun c55_1 => ?_) (fun c55_1 => ?_)
  · refine AR.run g_X5_scans_60_7 70 [some (.ref 16384), some (.int (nI (c))), some (.int (nI (v))), some (.int ((nI (95)) + ((nI (4)) * (nI (c))))), none] [.int (nI (v)), .ref 16384, .int ((nI (40)) * (nI (v))), .int (nI (3)), .int (nI (423))] _ [] rfl trivial ?_
    refine AR.callV1 (16384) [.int (nI (v))] [.int (nI ((40 * v))), .int (nI (3)), .int (nI (423))] lk_5_75 dc_X5_scans_70 rfl rfl (CT.ret (s_nextLeaf _ v (by omega) ((upd_ne (by omega)).trans hl) h40) (by rw [nlO_upd (by omega), hnl])) (by first | rfl | (simp only [nI_add, pk_mul]; first | done | rfl)) rfl ?_
    refine AR.run g_X5_scans_73_10 86 [some (.ref 16384), some (.int (nI (c))), some (.int (nI (v))), some (.int ((nI (95)) + ((nI (4)) * (nI (c))))), some (.int ((nI (423)) + ((nI (3)) * ((nI ((40 * v))) + (nI (k))))))] [.int (nI (0)), .int (((nI (95)) + ((nI (4)) * (nI (c)))) + (nI (2))), .ref 16385] _ [] rfl trivial ?_
    refine AR.ast (n := 0) (e := ((95 + (4 * c)) + 2)) (h1 := (hp o0 a0 t0 p0 (mo (upd (upd z ((95 + (4 * c)) + 2) ((z ((95 + (4 * c)) + 2)) + (nI (1)))) ((95 + (4 * c)) + 2) (nI (0))) sa ro te fr to un ga pi be bm en sta sv ln th hh) u0 l0)) ok_X5_scans_86 (by first | rfl | (simp only [nI_add, pk_mul]; first | done | rfl)) rfl rfl (by omega) (by decide) rfl ?_
    refine AR.run g_X5_scans_87_6 95 [some (.ref 16384), some (.int (nI (c))), some (.int (nI (v))), some (.int ((nI (95)) + ((nI (4)) * (nI (c))))), some (.int ((nI (423)) + ((nI (3)) * ((nI ((40 * v))) + (nI (k))))))] [.int (((nI (95)) + ((nI (4)) * (nI (c)))) + (nI (3))), .ref 16385, .int (((nI (95)) + ((nI (4)) * (nI (c)))) + (nI (3))), .ref 16385] _ [] rfl trivial ?_
    refine AR.ald (n := 0) (e := ((95 + (4 * c)) + 3)) ok_X5_scans_95 (by first | rfl | (simp only [nI_add, pk_mul]; first | done | rfl)) rfl (by omega) (by first | decide | omega) ?_
    refine AR.top (y := z ((95 + (4 * c)) + 3)) (by rw [rn (by omega), rn (by omega)]) ?_
    refine AR.run g_X5_scans_96_2 98 [some (.ref 16384), some (.int (nI (c))), some (.int (nI (v))), some (.int ((nI (95)) + ((nI (4)) * (nI (c))))), some (.int ((nI (423)) + ((nI (3)) * ((nI ((40 * v))) + (nI (k))))))] [.int ((z ((95 + (4 * c)) + 3)) + (nI (1))), .int (((nI (95)) + ((nI (4)) * (nI (c)))) + (nI (3))), .ref 16385] _ [] rfl trivial ?_
    refine AR.ast (n := 0) (e := ((95 + (4 * c)) + 3)) (h1 := (hp o0 a0 t0 p0 (mo (upd (upd (upd z ((95 + (4 * c)) + 2) ((z ((95 + (4 * c)) + 2)) + (nI (1)))) ((95 + (4 * c)) + 2) (nI (0))) ((95 + (4 * c)) + 3) ((z ((95 + (4 * c)) + 3)) + (nI (1)))) sa ro te fr to un ga pi be bm en sta sv ln th hh) u0 l0)) ok_X5_scans_98 (by first | rfl | (simp only [nI_add, pk_mul]; first | done | rfl)) rfl rfl (by omega) (by decide) rfl ?_
    refine AR.run g_X5_scans_99_4 106 [some (.ref 16384), some (.int (nI (c))), some (.int (nI (v))), some (.int ((nI (95)) + ((nI (4)) * (nI (c))))), some (.int ((nI (423)) + ((nI (3)) * ((nI ((40 * v))) + (nI (k))))))] [.int (nI (1)), .int ((nI (423)) + ((nI (3)) * ((nI ((40 * v))) + (nI (k))))), .ref 16385] _ [] rfl trivial ?_
    refine AR.ast (n := 0) (e := (423 + (3 * ((40 * v) + k)))) (h1 := (hp o0 a0 t0 p0 (mo (upd (upd (upd (upd z ((95 + (4 * c)) + 2) ((z ((95 + (4 * c)) + 2)) + (nI (1)))) ((95 + (4 * c)) + 2) (nI (0))) ((95 + (4 * c)) + 3) ((z ((95 + (4 * c)) + 3)) + (nI (1)))) (423 + (3 * ((40 * v) + k))) (nI (1))) sa ro te fr to un ga pi be bm en sta sv ln th hh) u0 l0)) ok_X5_scans_106 (by first | rfl | (simp only [nI_add, pk_mul]; first | done | rfl)) rfl rfl (by omega) (by decide) rfl ?_
    refine AR.run g_X5_scans_107_6 116 [some (.ref 16384), some (.int (nI (c))), some (.int (nI (v))), some (.int ((nI (95)) + ((nI (4)) * (nI (c))))), some (.int ((nI (423)) + ((nI (3)) * ((nI ((40 * v))) + (nI (k))))))] [.int (((nI (423)) + ((nI (3)) * ((nI ((40 * v))) + (nI (k))))) + (nI (1))), .ref 16385, .int (((nI (423)) + ((nI (3)) * ((nI ((40 * v))) + (nI (k))))) + (nI (1))), .ref 16385] _ [] rfl trivial ?_
    refine AR.ald (n := 0) (e := ((423 + (3 * ((40 * v) + k))) + 1)) ok_X5_scans_116 (by first | rfl | (simp only [nI_add, pk_mul]; first | done | rfl)) rfl (by omega) (by first | decide | omega) ?_
    refine AR.top (y := z ((423 + (3 * ((40 * v) + k))) + 1)) (by rw [rn (by omega), rn (by omega), rn (by omega), rn (by omega)]) ?_
    refine AR.run g_X5_scans_117_2 119 [some (.ref 16384), some (.int (nI (c))), some (.int (nI (v))), some (.int ((nI (95)) + ((nI (4)) * (nI (c))))), some (.int ((nI (423)) + ((nI (3)) * ((nI ((40 * v))) + (nI (k))))))] [.int ((z ((423 + (3 * ((40 * v) + k))) + 1)) + (nI (1))), .int (((nI (423)) + ((nI (3)) * ((nI ((40 * v))) + (nI (k))))) + (nI (1))), .ref 16385] _ [] rfl trivial ?_
    refine AR.ast (n := 0) (e := ((423 + (3 * ((40 * v) + k))) + 1)) (h1 := (hp o0 a0 t0 p0 (mo (upd (upd (upd (upd (upd z ((95 + (4 * c)) + 2) ((z ((95 + (4 * c)) + 2)) + (nI (1)))) ((95 + (4 * c)) + 2) (nI (0))) ((95 + (4 * c)) + 3) ((z ((95 + (4 * c)) + 3)) + (nI (1)))) (423 + (3 * ((40 * v) + k))) (nI (1))) ((423 + (3 * ((40 * v) + k))) + 1) ((z ((423 + (3 * ((40 * v) + k))) + 1)) + (nI (1)))) sa ro te fr to un ga pi be bm en sta sv ln th hh) u0 l0)) ok_X5_scans_119 (by first | rfl | (simp only [nI_add, pk_mul]; first | done | rfl)) rfl rfl (by omega) (by decide) rfl ?_
    refine AR.run g_X5_scans_120_10 134 [some (.ref 16384), some (.int (nI (c))), some (.int (nI (v))), some (.int ((nI (95)) + ((nI (4)) * (nI (c))))), some (.int ((nI (423)) + ((nI (3)) * ((nI ((40 * v))) + (nI (k))))))] [.int (((nI (11)) + ((nI (7)) * (nI (v)))) + (nI (4))), .ref 16385, .int (((nI (11)) + ((nI (7)) * (nI (v)))) + (nI (4))), .ref 16385] _ [] rfl trivial ?_
    refine AR.ald (n := 0) (e := ((11 + (7 * v)) + 4)) ok_X5_scans_134 (by first | rfl | (simp only [nI_add, pk_mul]; first | done | rfl)) rfl (by omega) (by first | decide | omega) ?_
    refine AR.top (y := z ((11 + (7 * v)) + 4)) (by rw [rn (by omega), rn (by omega), rn (by omega), rn (by omega), rn (by omega)]) ?_
    refine AR.run g_X5_scans_135_2 137 [some (.ref 16384), some (.int (nI (c))), some (.int (nI (v))), some (.int ((nI (95)) + ((nI (4)) * (nI (c))))), some (.int ((nI (423)) + ((nI (3)) * ((nI ((40 * v))) + (nI (k))))))] [.int ((z ((11 + (7 * v)) + 4)) + (nI (1))), .int (((nI (11)) + ((nI (7)) * (nI (v)))) + (nI (4))), .ref 16385] _ [] rfl trivial ?_
    refine AR.ast (n := 0) (e := ((11 + (7 * v)) + 4)) (h1 := (hp o0 a0 t0 p0 (mo (upd (upd (upd (upd (upd (upd z ((95 + (4 * c)) + 2) ((z ((95 + (4 * c)) + 2)) + (nI (1)))) ((95 + (4 * c)) + 2) (nI (0))) ((95 + (4 * c)) + 3) ((z ((95 + (4 * c)) + 3)) + (nI (1)))) (423 + (3 * ((40 * v) + k))) (nI (1))) ((423 + (3 * ((40 * v) + k))) + 1) ((z ((423 + (3 * ((40 * v) + k))) + 1)) + (nI (1)))) ((11 + (7 * v)) + 4) ((z ((11 + (7 * v)) + 4)) + (nI (1)))) sa ro te fr to un ga pi be bm en sta sv ln th hh) u0 l0)) ok_X5_scans_137 (by first | rfl | (simp only [nI_add, pk_mul]; first | done | rfl)) rfl rfl (by omega) (by decide) rfl ?_
    refine AR.run g_X5_scans_138_3 141 [some (.ref 16384), some (.int (nI (c))), some (.int (nI (v))), some (.int ((nI (95)) + ((nI (4)) * (nI (c))))), some (.int ((nI (423)) + ((nI (3)) * ((nI ((40 * v))) + (nI (k))))))] [.int (nI (4)), .int (nI (v)), .ref 16384] _ [] rfl trivial ?_
    refine AR.callV1 (16384) [.int (nI (v)), .int (nI (4))] [] lk_5_62 dc_X5_scans_141 rfl rfl (s_ofVolume _ v 4 (by omega) (by omega)) (by first | rfl | (simp only [nI_add, pk_mul]; first | done | rfl)) rfl ?_
    refine AR.top (y := (z ((11 + (7 * v)) + 4)) + (nI (1))) (by rw [ru (by omega)]) ?_
    refine AR.run g_X5_scans_144_3 150 [some (.ref 16384), some (.int (nI (c))), some (.int (nI (v))), some (.int ((nI (95)) + ((nI (4)) * (nI (c))))), some (.int ((nI (423)) + ((nI (3)) * ((nI ((40 * v))) + (nI (k))))))] [.int (nI (9)), .ref 16385, .int ((z ((11 + (7 * v)) + 4)) + (nI (1)))] _ [] rfl trivial ?_
    refine AR.ald (n := 0) (e := 9) ok_X5_scans_150 (by first | rfl | (simp only [nI_add, pk_mul]; first | done | rfl)) rfl (by omega) (by first | decide | omega) ?_
    refine AR.top (y := z 9) (by rw [rn (by omega), rn (by omega), rn (by omega), rn (by omega), rn (by omega), rn (by omega)]) ?_
    refine AR.lt2 (tgt := 187) dc_X5_scans_151 (by decide) (fun c151_2 => ?_) (fun c151_2 => ?_)
    · refine AR.run g_X5_scans_187_1 188 [some (.ref 16384), some (.int (nI (c))), some (.int (nI (v))), some (.int ((nI (95)) + ((nI (4)) * (nI (c))))), some (.int ((nI (423)) + ((nI (3)) * ((nI ((40 * v))) + (nI (k))))))] [.int (nI (1))] _ [] rfl trivial ?_
      have e3_0 : F_5scans c v z = (nI (1)) := by rw [F_5scans, if_pos c55_1, if_pos c151_2]
      have e3_1 : F_5scans_z c v k z = (upd (upd (upd (upd (upd (upd z ((95 + (4 * c)) + 2) ((z ((95 + (4 * c)) + 2)) + (nI (1)))) ((95 + (4 * c)) + 2) (nI (0))) ((95 + (4 * c)) + 3) ((z ((95 + (4 * c)) + 3)) + (nI (1)))) (423 + (3 * ((40 * v) + k))) (nI (1))) ((423 + (3 * ((40 * v) + k))) + 1) ((z ((423 + (3 * ((40 * v) + k))) + 1)) + (nI (1)))) ((11 + (7 * v)) + 4) ((z ((11 + (7 * v)) + 4)) + (nI (1)))) := by rw [F_5scans_z, if_pos c55_1, if_pos c151_2]
      exact AR.retI dc_X5_scans_188 rfl e3_0.symm (by rw [e3_1])
    · refine AR.run g_X5_scans_154_10 168 [some (.ref 16384), some (.int (nI (c))), some (.int (nI (v))), some (.int ((nI (95)) + ((nI (4)) * (nI (c))))), some (.int ((nI (423)) + ((nI (3)) * ((nI ((40 * v))) + (nI (k))))))] [.int (nI (0)), .int (((nI (11)) + ((nI (7)) * (nI (v)))) + (nI (4))), .ref 16385] _ [] rfl trivial ?_
      refine AR.ast (n := 0) (e := ((11 + (7 * v)) + 4)) (h1 := (hp o0 a0 t0 p0 (mo (upd (upd (upd (upd (upd (upd (upd z ((95 + (4 * c)) + 2) ((z ((95 + (4 * c)) + 2)) + (nI (1)))) ((95 + (4 * c)) + 2) (nI (0))) ((95 + (4 * c)) + 3) ((z ((95 + (4 * c)) + 3)) + (nI (1)))) (423 + (3 * ((40 * v) + k))) (nI (1))) ((423 + (3 * ((40 * v) + k))) + 1) ((z ((423 + (3 * ((40 * v) + k))) + 1)) + (nI (1)))) ((11 + (7 * v)) + 4) ((z ((11 + (7 * v)) + 4)) + (nI (1)))) ((11 + (7 * v)) + 4) (nI (0))) sa ro te fr to un ga pi be bm en sta sv ln th hh) u0 l0)) ok_X5_scans_168 (by first | rfl | (simp only [nI_add, pk_mul]; first | done | rfl)) rfl rfl (by omega) (by decide) rfl ?_
      refine AR.run g_X5_scans_169_10 183 [some (.ref 16384), some (.int (nI (c))), some (.int (nI (v))), some (.int ((nI (95)) + ((nI (4)) * (nI (c))))), some (.int ((nI (423)) + ((nI (3)) * ((nI ((40 * v))) + (nI (k))))))] [.int (((nI (11)) + ((nI (7)) * (nI (v)))) + (nI (3))), .ref 16385, .int (((nI (11)) + ((nI (7)) * (nI (v)))) + (nI (3))), .ref 16385] _ [] rfl trivial ?_
      refine AR.ald (n := 0) (e := ((11 + (7 * v)) + 3)) ok_X5_scans_183 (by first | rfl | (simp only [nI_add, pk_mul]; first | done | rfl)) rfl (by omega) (by first | decide | omega) ?_
      refine AR.top (y := z ((11 + (7 * v)) + 3)) (by rw [rn (by omega), rn (by omega), rn (by omega), rn (by omega), rn (by omega), rn (by omega), rn (by omega)]) ?_
      refine AR.run g_X5_scans_184_2 186 [some (.ref 16384), some (.int (nI (c))), some (.int (nI (v))), some (.int ((nI (95)) + ((nI (4)) * (nI (c))))), some (.int ((nI (423)) + ((nI (3)) * ((nI ((40 * v))) + (nI (k))))))] [.int ((z ((11 + (7 * v)) + 3)) + (nI (1))), .int (((nI (11)) + ((nI (7)) * (nI (v)))) + (nI (3))), .ref 16385] _ [] rfl trivial ?_
      refine AR.ast (n := 0) (e := ((11 + (7 * v)) + 3)) (h1 := (hp o0 a0 t0 p0 (mo (upd (upd (upd (upd (upd (upd (upd (upd z ((95 + (4 * c)) + 2) ((z ((95 + (4 * c)) + 2)) + (nI (1)))) ((95 + (4 * c)) + 2) (nI (0))) ((95 + (4 * c)) + 3) ((z ((95 + (4 * c)) + 3)) + (nI (1)))) (423 + (3 * ((40 * v) + k))) (nI (1))) ((423 + (3 * ((40 * v) + k))) + 1) ((z ((423 + (3 * ((40 * v) + k))) + 1)) + (nI (1)))) ((11 + (7 * v)) + 4) ((z ((11 + (7 * v)) + 4)) + (nI (1)))) ((11 + (7 * v)) + 4) (nI (0))) ((11 + (7 * v)) + 3) ((z ((11 + (7 * v)) + 3)) + (nI (1)))) sa ro te fr to un ga pi be bm en sta sv ln th hh) u0 l0)) ok_X5_scans_186 (by first | rfl | (simp only [nI_add, pk_mul]; first | done | rfl)) rfl rfl (by omega) (by decide) rfl ?_
      refine AR.run g_X5_scans_187_1 188 [some (.ref 16384), some (.int (nI (c))), some (.int (nI (v))), some (.int ((nI (95)) + ((nI (4)) * (nI (c))))), some (.int ((nI (423)) + ((nI (3)) * ((nI ((40 * v))) + (nI (k))))))] [.int (nI (1))] _ [] rfl trivial ?_
      have e4_0 : F_5scans c v z = (nI (1)) := by rw [F_5scans, if_pos c55_1, if_neg c151_2]
      have e4_1 : F_5scans_z c v k z = (upd (upd (upd (upd (upd (upd (upd (upd z ((95 + (4 * c)) + 2) ((z ((95 + (4 * c)) + 2)) + (nI (1)))) ((95 + (4 * c)) + 2) (nI (0))) ((95 + (4 * c)) + 3) ((z ((95 + (4 * c)) + 3)) + (nI (1)))) (423 + (3 * ((40 * v) + k))) (nI (1))) ((423 + (3 * ((40 * v) + k))) + 1) ((z ((423 + (3 * ((40 * v) + k))) + 1)) + (nI (1)))) ((11 + (7 * v)) + 4) ((z ((11 + (7 * v)) + 4)) + (nI (1)))) ((11 + (7 * v)) + 4) (nI (0))) ((11 + (7 * v)) + 3) ((z ((11 + (7 * v)) + 3)) + (nI (1)))) := by rw [F_5scans_z, if_pos c55_1, if_neg c151_2]
      exact AR.retI dc_X5_scans_188 rfl e4_0.symm (by rw [e4_1])
  · refine AR.run g_X5_scans_58_1 59 [some (.ref 16384), some (.int (nI (c))), some (.int (nI (v))), some (.int ((nI (95)) + ((nI (4)) * (nI (c))))), none] [.int (nI (0))] _ [] rfl trivial ?_
    have e5_0 : F_5scans c v z = (nI (0)) := by rw [F_5scans, if_neg c55_1]
    have e5_1 : F_5scans_z c v k z = (upd z ((95 + (4 * c)) + 2) ((z ((95 + (4 * c)) + 2)) + (nI (1)))) := by rw [F_5scans_z, if_neg c55_1]
    exact AR.retI dc_X5_scans_59 rfl e5_0.symm (by rw [e5_1])
end
section
theorem ZI_scans {z : Nat → Int32} {nv nc nr ne c v k : Nat} (hc : c < 4) (hv : v < 12) (hk : k < 40) (hZ : ZI z nv nc nr ne) : ZI (F_5scans_z c v k z) nv nc nr ne := by
  have p1 : plc ((95 + (4 * c)) + 2) := ⟨by omega, by omega, by omega, by omega, fun v9 hv9 => by omega⟩
  have p2 : plc ((95 + (4 * c)) + 3) := ⟨by omega, by omega, by omega, by omega, fun v9 hv9 => by omega⟩
  have p3 : plc (423 + (3 * ((40 * v) + k))) := ⟨by omega, by omega, by omega, by omega, fun v9 hv9 => by omega⟩
  have p4 : plc ((423 + (3 * ((40 * v) + k))) + 1) := ⟨by omega, by omega, by omega, by omega, fun v9 hv9 => by omega⟩
  have p5 : plc ((11 + (7 * v)) + 4) := ⟨by omega, by omega, by omega, by omega, fun v9 hv9 => by omega⟩
  have p6 : plc ((11 + (7 * v)) + 3) := ⟨by omega, by omega, by omega, by omega, fun v9 hv9 => by omega⟩
  unfold F_5scans_z
  (repeat' split) <;> repeat (first | exact hZ | exact ZI_upd p1 hZ | refine ZI_upd p1 ?_ | refine ZI_upd p2 ?_ | refine ZI_upd p3 ?_ | refine ZI_upd p4 ?_ | refine ZI_upd p5 ?_ | refine ZI_upd p6 ?_)
def B_5minute_4 (nv : Nat) (j4 : Nat) (x4_1 : Int32) (y4_z : Nat → Int32) : (Int32) × (Nat → Int32) := if (idZ y4_z nv j4) = 0 then (x4_1 + (F_5scans j4 (voG y4_z (nI j4) nv) y4_z), F_5scans_z j4 (voG y4_z (nI j4) nv) (nlG y4_z (voG y4_z (nI j4) nv) (lv y4_z (voG y4_z (nI j4) nv))) y4_z) else (x4_1 + (nI (0)), y4_z)
def L_5minute_4 (nv : Nat) (z : Nat → Int32) : Nat → (Int32) × (Nat → Int32)
  | 0 => (nI (0), z)
  | j + 1 => B_5minute_4 nv j ((L_5minute_4 nv z  j).1) ((L_5minute_4 nv z  j).2)
def B_5minute_42 (j42 : Nat) (y42_z : Nat → Int32) : (Nat → Int32) := if (y42_z (111 + 4 * j42 + 1)) ≤ 0 then (upd y42_z ((111 + (4 * j42)) + 1) ((y42_z ((111 + (4 * j42)) + 1)) - (nI (0)))) else (upd y42_z ((111 + (4 * j42)) + 1) ((y42_z ((111 + (4 * j42)) + 1)) - (nI (1))))
def L_5minute_42 (nv : Nat) (nc : Nat) (z : Nat → Int32) : Nat → (Nat → Int32)
  | 0 => (L_5minute_4 nv z nc).2
  | j + 1 => B_5minute_42  j (L_5minute_42 nv nc z  j)
def B_5minute_90 (j90 : Nat) (y90_z : Nat → Int32) : (Nat → Int32) := if (y90_z (11 + 7 * j90 + 6)) ≤ 0 then (upd y90_z ((11 + (7 * j90)) + 6) ((y90_z ((11 + (7 * j90)) + 6)) - (nI (0)))) else (upd y90_z ((11 + (7 * j90)) + 6) ((y90_z ((11 + (7 * j90)) + 6)) - (nI (1))))
def L_5minute_90 (nv : Nat) (nc : Nat) (nr : Nat) (z : Nat → Int32) : Nat → (Nat → Int32)
  | 0 => L_5minute_42 nv nc z nr
  | j + 1 => B_5minute_90  j (L_5minute_90 nv nc nr z  j)
theorem ZI_min4 {z : Nat → Int32} {nv nc nr ne : Nat} (hZ : ZI z nv nc nr ne) : ∀ j : Nat, j ≤ 4 → ZI (L_5minute_4 nv z j).2 nv nc nr ne
  | 0, _ => hZ
  | j + 1, h => by
    have ih := ZI_min4 hZ j (by omega)
    show ZI (B_5minute_4 nv j (L_5minute_4 nv z j).1 (L_5minute_4 nv z j).2).2 nv nc nr ne
    unfold B_5minute_4
    split
    · rename_i h0
      obtain ⟨h1, h2, h3, h4⟩ := idZ_0 ih h0
      exact ZI_scans (by omega) (by have := ih.1.2; omega) h4 ih
    · exact ih
theorem ZI_min42 {z : Nat → Int32} {nv nc nr ne : Nat} (hZ : ZI z nv nc nr ne) (h4 : nc ≤ 4) : ∀ j : Nat, j ≤ 3 → ZI (L_5minute_42 nv nc z j) nv nc nr ne
  | 0, _ => ZI_min4 hZ nc h4
  | j + 1, h => by
    have ih := ZI_min42 hZ h4 j (by omega)
    show ZI (B_5minute_42 j (L_5minute_42 nv nc z j)) nv nc nr ne
    have p1 : plc ((111 + (4 * j)) + 1) := ⟨by omega, by omega, by omega, by omega, fun v9 hv9 => by omega⟩
    unfold B_5minute_42
    split <;> exact ZI_upd p1 ih
theorem ZI_min90 {z : Nat → Int32} {nv nc nr ne : Nat} (hZ : ZI z nv nc nr ne) (h4 : nc ≤ 4) (h3 : nr ≤ 3) : ∀ j : Nat, j ≤ 12 → ZI (L_5minute_90 nv nc nr z j) nv nc nr ne
  | 0, _ => ZI_min42 hZ h4 nr h3
  | j + 1, h => by
    have ih := ZI_min90 hZ h4 h3 j (by omega)
    show ZI (B_5minute_90 j (L_5minute_90 nv nc nr z j)) nv nc nr ne
    have p1 : plc ((11 + (7 * j)) + 6) := ⟨by omega, by omega, by omega, by omega, fun v9 hv9 => by omega⟩
    unfold B_5minute_90
    split <;> exact ZI_upd p1 ih
def F_5minute (nv : Nat) (nc : Nat) (z : Nat → Int32) : Int32 := ((L_5minute_4 nv z nc).1)
def F_5minute_z (nv : Nat) (nc : Nat) (nr : Nat) (z : Nat → Int32) : Nat → Int32 := (upd (L_5minute_90 nv nc nr z nv) 3 (((L_5minute_90 nv nc nr z nv) 3) + (nI (1))))
theorem g_X5_minute_0_4 : ab_oks M_X5_minute [(0, .iconst 0, 1, 0, 0, 0, .int (nI (0))), (1, .istore_n 1, 1, 1, 0, 0, .null), (2, .iconst 0, 1, 0, 0, 0, .int (nI (0))), (3, .istore_n 2, 1, 2, 0, 0, .null)] = true := by decide +kernel
theorem g_X5_minute_4_4 : ab_oks M_X5_minute [(4, .iload_n 2, 1, 2, 0, 0, .null), (5, .aload_n 0, 1, 0, 0, 0, .null), (6, .getfield 7, 3, 5, 0, 930, .null), (9, .iconst 1, 1, 0, 0, 0, .int (nI (1)))] = true := by decide +kernel
theorem ok_X5_minute_10 : ab_ok M_X5_minute (10, .iaload, 1, 0, 0, 0, .null) = true := by decide +kernel
theorem dc_X5_minute_11 : decode (AM.bytes M_X5_minute) 11 = .ok (.if_icmp .ge 29, 3) := by decide +kernel
theorem g_X5_minute_14_3 : ab_oks M_X5_minute [(14, .iload_n 1, 1, 1, 0, 0, .null), (15, .aload_n 0, 1, 0, 0, 0, .null), (16, .iload_n 2, 1, 2, 0, 0, .null)] = true := by decide +kernel
theorem dc_X5_minute_17 : decode (AM.bytes M_X5_minute) 17 = .ok (.invokevirtual 101, 3) := by decide +kernel
theorem dc_X5_minute_20 : decode (AM.bytes M_X5_minute) 20 = .ok (.ifCond .ne 11, 3) := by decide +kernel
theorem g_X5_minute_31_5 : ab_oks M_X5_minute [(31, .iconst 0, 1, 0, 0, 0, .int (nI (0))), (32, .iadd, 1, 0, 0, 0, .null), (33, .istore_n 1, 1, 1, 0, 0, .null), (34, .iinc 2 1, 3, 2, 0, 0, .int (nI (1))), (37, .goto (-33), 3, 4, 0, 0, .null)] = true := by decide +kernel
theorem g_X5_minute_23_2 : ab_oks M_X5_minute [(23, .aload_n 0, 1, 0, 0, 0, .null), (24, .iload_n 2, 1, 2, 0, 0, .null)] = true := by decide +kernel
theorem lk_5_104 : ab_lkV "LeafCradlesModel" 104 M_X5_scans 1 [1089, 1091, 50, 97, 1092] = true := by decide +kernel
theorem dc_X5_minute_25 : decode (AM.bytes M_X5_minute) 25 = .ok (.invokevirtual 104, 3) := by decide +kernel
theorem g_X5_minute_28_5 : ab_oks M_X5_minute [(28, .goto 4, 3, 32, 0, 0, .null), (32, .iadd, 1, 0, 0, 0, .null), (33, .istore_n 1, 1, 1, 0, 0, .null), (34, .iinc 2 1, 3, 2, 0, 0, .int (nI (1))), (37, .goto (-33), 3, 4, 0, 0, .null)] = true := by decide +kernel
theorem g_X5_minute_40_2 : ab_oks M_X5_minute [(40, .iconst 0, 1, 0, 0, 0, .int (nI (0))), (41, .istore_n 2, 1, 2, 0, 0, .null)] = true := by decide +kernel
theorem g_X5_minute_42_4 : ab_oks M_X5_minute [(42, .iload_n 2, 1, 2, 0, 0, .null), (43, .aload_n 0, 1, 0, 0, 0, .null), (44, .getfield 7, 3, 5, 0, 930, .null), (47, .iconst 2, 1, 0, 0, 0, .int (nI (2)))] = true := by decide +kernel
theorem ok_X5_minute_48 : ab_ok M_X5_minute (48, .iaload, 1, 0, 0, 0, .null) = true := by decide +kernel
theorem dc_X5_minute_49 : decode (AM.bytes M_X5_minute) 49 = .ok (.if_icmp .ge 39, 3) := by decide +kernel
theorem g_X5_minute_52_10 : ab_oks M_X5_minute [(52, .aload_n 0, 1, 0, 0, 0, .null), (53, .getfield 7, 3, 5, 0, 930, .null), (56, .bipush 111, 2, 0, 0, 0, .int (nI (111))), (58, .iconst 4, 1, 0, 0, 0, .int (nI (4))), (59, .iload_n 2, 1, 2, 0, 0, .null), (60, .imul, 1, 0, 0, 0, .null), (61, .iadd, 1, 0, 0, 0, .null), (62, .iconst 1, 1, 0, 0, 0, .int (nI (1))), (63, .iadd, 1, 0, 0, 0, .null), (64, .dup2, 1, 0, 0, 0, .null)] = true := by decide +kernel
theorem ok_X5_minute_65 : ab_ok M_X5_minute (65, .iaload, 1, 0, 0, 0, .null) = true := by decide +kernel
theorem g_X5_minute_66_3 : ab_oks M_X5_minute [(66, .aload_n 0, 1, 0, 0, 0, .null), (67, .iload_n 2, 1, 2, 0, 0, .null), (68, .iconst 1, 1, 0, 0, 0, .int (nI (1)))] = true := by decide +kernel
theorem dc_X5_minute_69 : decode (AM.bytes M_X5_minute) 69 = .ok (.invokevirtual 58, 3) := by decide +kernel
theorem dc_X5_minute_72 : decode (AM.bytes M_X5_minute) 72 = .ok (.ifCond .le 7, 3) := by decide +kernel
theorem g_X5_minute_79_2 : ab_oks M_X5_minute [(79, .iconst 0, 1, 0, 0, 0, .int (nI (0))), (80, .isub, 1, 0, 0, 0, .null)] = true := by decide +kernel
theorem ok_X5_minute_81 : ab_ok M_X5_minute (81, .iastore, 1, 0, 0, 0, .null) = true := by decide +kernel
theorem g_X5_minute_82_2 : ab_oks M_X5_minute [(82, .iinc 2 1, 3, 2, 0, 0, .int (nI (1))), (85, .goto (-43), 3, 42, 0, 0, .null)] = true := by decide +kernel
theorem g_X5_minute_75_3 : ab_oks M_X5_minute [(75, .iconst 1, 1, 0, 0, 0, .int (nI (1))), (76, .goto 4, 3, 80, 0, 0, .null), (80, .isub, 1, 0, 0, 0, .null)] = true := by decide +kernel
theorem g_X5_minute_88_2 : ab_oks M_X5_minute [(88, .iconst 0, 1, 0, 0, 0, .int (nI (0))), (89, .istore_n 2, 1, 2, 0, 0, .null)] = true := by decide +kernel
theorem g_X5_minute_90_4 : ab_oks M_X5_minute [(90, .iload_n 2, 1, 2, 0, 0, .null), (91, .aload_n 0, 1, 0, 0, 0, .null), (92, .getfield 7, 3, 5, 0, 930, .null), (95, .iconst 0, 1, 0, 0, 0, .int (nI (0)))] = true := by decide +kernel
theorem ok_X5_minute_96 : ab_ok M_X5_minute (96, .iaload, 1, 0, 0, 0, .null) = true := by decide +kernel
theorem dc_X5_minute_97 : decode (AM.bytes M_X5_minute) 97 = .ok (.if_icmp .ge 42, 3) := by decide +kernel
theorem g_X5_minute_100_10 : ab_oks M_X5_minute [(100, .aload_n 0, 1, 0, 0, 0, .null), (101, .getfield 7, 3, 5, 0, 930, .null), (104, .bipush 11, 2, 0, 0, 0, .int (nI (11))), (106, .bipush 7, 2, 0, 0, 0, .int (nI (7))), (108, .iload_n 2, 1, 2, 0, 0, .null), (109, .imul, 1, 0, 0, 0, .null), (110, .iadd, 1, 0, 0, 0, .null), (111, .bipush 6, 2, 0, 0, 0, .int (nI (6))), (113, .iadd, 1, 0, 0, 0, .null), (114, .dup2, 1, 0, 0, 0, .null)] = true := by decide +kernel
theorem ok_X5_minute_115 : ab_ok M_X5_minute (115, .iaload, 1, 0, 0, 0, .null) = true := by decide +kernel
theorem g_X5_minute_116_3 : ab_oks M_X5_minute [(116, .aload_n 0, 1, 0, 0, 0, .null), (117, .iload_n 2, 1, 2, 0, 0, .null), (118, .bipush 6, 2, 0, 0, 0, .int (nI (6)))] = true := by decide +kernel
theorem dc_X5_minute_120 : decode (AM.bytes M_X5_minute) 120 = .ok (.invokevirtual 62, 3) := by decide +kernel
theorem dc_X5_minute_123 : decode (AM.bytes M_X5_minute) 123 = .ok (.ifCond .le 7, 3) := by decide +kernel
theorem g_X5_minute_130_2 : ab_oks M_X5_minute [(130, .iconst 0, 1, 0, 0, 0, .int (nI (0))), (131, .isub, 1, 0, 0, 0, .null)] = true := by decide +kernel
theorem ok_X5_minute_132 : ab_ok M_X5_minute (132, .iastore, 1, 0, 0, 0, .null) = true := by decide +kernel
theorem g_X5_minute_133_2 : ab_oks M_X5_minute [(133, .iinc 2 1, 3, 2, 0, 0, .int (nI (1))), (136, .goto (-46), 3, 90, 0, 0, .null)] = true := by decide +kernel
theorem g_X5_minute_126_3 : ab_oks M_X5_minute [(126, .iconst 1, 1, 0, 0, 0, .int (nI (1))), (127, .goto 4, 3, 131, 0, 0, .null), (131, .isub, 1, 0, 0, 0, .null)] = true := by decide +kernel
theorem g_X5_minute_139_4 : ab_oks M_X5_minute [(139, .aload_n 0, 1, 0, 0, 0, .null), (140, .getfield 7, 3, 5, 0, 930, .null), (143, .iconst 3, 1, 0, 0, 0, .int (nI (3))), (144, .dup2, 1, 0, 0, 0, .null)] = true := by decide +kernel
theorem ok_X5_minute_145 : ab_ok M_X5_minute (145, .iaload, 1, 0, 0, 0, .null) = true := by decide +kernel
theorem g_X5_minute_146_2 : ab_oks M_X5_minute [(146, .iconst 1, 1, 0, 0, 0, .int (nI (1))), (147, .iadd, 1, 0, 0, 0, .null)] = true := by decide +kernel
theorem ok_X5_minute_148 : ab_ok M_X5_minute (148, .iastore, 1, 0, 0, 0, .null) = true := by decide +kernel
theorem g_X5_minute_149_1 : ab_oks M_X5_minute [(149, .iload_n 1, 1, 1, 0, 0, .null)] = true := by decide +kernel
theorem dc_X5_minute_150 : decode (AM.bytes M_X5_minute) 150 = .ok (.ireturn, 1) := by decide +kernel
set_option maxRecDepth 100000 in
set_option maxHeartbeats 4000000 in
theorem s_5minute {E : AE} (d : Nat) {nv : Nat} {nc : Nat} {nr : Nat} {ne : Nat}  {o0 a0 t0 p0 u0 l0 : List AC} {z sa ro te fr to un ga pi be : Nat → Int32} {bm en sta sv ln th : Int32} {hh : Int64} (hZ : ZI z nv nc nr ne) : CT E M_X5_minute (d + 3) [.ref 16384] (hp o0 a0 t0 p0 (mo z sa ro te fr to un ga pi be bm en sta sv ln th hh) u0 l0) (.inl (some (.int (F_5minute nv nc z)))) (hp o0 a0 t0 p0 (mo (F_5minute_z nv nc nr z) sa ro te fr to un ga pi be bm en sta sv ln th hh) u0 l0) 0 0 := by
  obtain ⟨⟨hnv, h12⟩, ⟨hnc, h4⟩, ⟨hnr, h3⟩, ⟨hne, h60⟩, hLV⟩ := id hZ
  refine CT.of (L := [some (.ref 16384), none, none]) rfl rfl ?_
  refine AR.run g_X5_minute_0_4 4 [some (.ref 16384), some (.int (nI (0))), some (.int (nI (0)))] [] _ [] rfl trivial ?_
  refine AR.cast (L' := [some (.ref 16384), some (.int ((L_5minute_4 nv z 0).1)), some (.int (nI (0)))]) (by first | rfl | (rw [L_5minute_4])) rfl (by first | rfl | (rw [L_5minute_4])) (AR.loopN nc (fun j4 => [some (.ref 16384), some (.int ((L_5minute_4 nv z j4).1)), some (.int (nI (j4)))]) (fun j4 => (hp o0 a0 t0 p0 (mo ((L_5minute_4 nv z j4).2) sa ro te fr to un ga pi be bm en sta sv ln th hh) u0 l0)) (fun j4 => True) (fun j4 hj4 hI4 ih4 => ?_) (fun hI4 => ?_) 0 (by omega) (by first | trivial | omega))
  · have hA_0 : ZI ((L_5minute_4 nv z j4).2) nv nc nr ne := ZI_min4 hZ j4 (by omega)
    refine AR.run g_X5_minute_4_4 10 [some (.ref 16384), some (.int ((L_5minute_4 nv z j4).1)), some (.int (nI (j4)))] [.int (nI (1)), .ref 16385, .int (nI (j4))] _ [] rfl trivial ?_
    refine AR.ald (n := 0) (e := 1) ok_X5_minute_10 (by first | rfl | (simp only [nI_add, pk_mul]; first | done | rfl)) rfl (by omega) (by first | decide | omega) ?_
    refine AR.top hA_0.2.1.1 ?_
    refine AR.ge2N (tgt := 40) (a := j4) (b := nc) dc_X5_minute_11 (by decide) (by first | rfl | (simp only [nI_add, pk_mul]; first | done | rfl)) (by first | rfl | (simp only [nI_add, pk_mul]; first | done | rfl)) (by omega) (by omega) (fun c11_1 => absurd c11_1 (by omega)) (fun c11_1 => ?_)
    refine AR.run g_X5_minute_14_3 17 [some (.ref 16384), some (.int ((L_5minute_4 nv z j4).1)), some (.int (nI (j4)))] [.int (nI (j4)), .ref 16384, .int ((L_5minute_4 nv z j4).1)] _ [] rfl trivial ?_
    refine AR.callV1 (16384) [.int (nI (j4))] [.int ((L_5minute_4 nv z j4).1)] lk_5_101 dc_X5_minute_17 rfl rfl (s_idle _ j4 (by omega) hA_0.1.1 hA_0.1.2 hA_0.2.2.2.2) (by first | rfl | (simp only [nI_add, pk_mul]; first | done | rfl)) rfl ?_
    refine AR.ne (tgt := 31) dc_X5_minute_20 (by decide) (fun c20_2 => ?_) (fun c20_2 => ?_)
    · refine AR.run g_X5_minute_31_5 4 [some (.ref 16384), some (.int (((L_5minute_4 nv z j4).1) + (nI (0)))), some (.int ((nI (j4)) + (nI (1))))] [] _ [] rfl trivial ?_
      have e3 : L_5minute_4 nv z (j4 + 1) = (((L_5minute_4 nv z j4).1) + (nI (0)), (L_5minute_4 nv z j4).2) := by rw [L_5minute_4, B_5minute_4, if_neg c20_2]
      exact AR.cast (L' := [some (.ref 16384), some (.int ((L_5minute_4 nv z (j4 + 1)).1)), some (.int (nI (j4 + 1)))]) (by rw [e3, nI_add]) rfl (by rw [e3]) (ih4 (by first | trivial | omega))
    · obtain ⟨hi1, hi2, hi3, hi4⟩ := idZ_0 hA_0 (by assumption)
      refine AR.run g_X5_minute_23_2 25 [some (.ref 16384), some (.int ((L_5minute_4 nv z j4).1)), some (.int (nI (j4)))] [.int (nI (j4)), .ref 16384, .int ((L_5minute_4 nv z j4).1)] _ [] rfl trivial ?_
      refine AR.callV1 (16384) [.int (nI (j4))] [.int ((L_5minute_4 nv z j4).1)] lk_5_104 dc_X5_minute_25 rfl rfl (s_5scans _ j4 (by omega) hA_0.1.1 hA_0.1.2 (by assumption) (by omega) (by first | assumption | exact (hLV (voG ((L_5minute_4 nv z j4).2) (nI j4) nv) (by omega)).1 | exact (hA_0.2.2.2.2 (voG ((L_5minute_4 nv z j4).2) (nI j4) nv) (by omega)).1) (by first | assumption | exact (hLV (voG ((L_5minute_4 nv z j4).2) (nI j4) nv) (by omega)).2 | exact (hA_0.2.2.2.2 (voG ((L_5minute_4 nv z j4).2) (nI j4) nv) (by omega)).2) (by assumption) (by omega)) (by first | rfl | (simp only [nI_add, pk_mul]; first | done | rfl)) rfl ?_
      refine AR.run g_X5_minute_28_5 4 [some (.ref 16384), some (.int (((L_5minute_4 nv z j4).1) + (F_5scans j4 (voG ((L_5minute_4 nv z j4).2) (nI j4) nv) ((L_5minute_4 nv z j4).2)))), some (.int ((nI (j4)) + (nI (1))))] [] _ [] rfl trivial ?_
      have e4 : L_5minute_4 nv z (j4 + 1) = (((L_5minute_4 nv z j4).1) + (F_5scans j4 (voG ((L_5minute_4 nv z j4).2) (nI j4) nv) ((L_5minute_4 nv z j4).2)), F_5scans_z j4 (voG ((L_5minute_4 nv z j4).2) (nI j4) nv) (nlG ((L_5minute_4 nv z j4).2) (voG ((L_5minute_4 nv z j4).2) (nI j4) nv) (lv ((L_5minute_4 nv z j4).2) (voG ((L_5minute_4 nv z j4).2) (nI j4) nv))) ((L_5minute_4 nv z j4).2)) := by rw [L_5minute_4, B_5minute_4, if_pos c20_2]
      exact AR.cast (L' := [some (.ref 16384), some (.int ((L_5minute_4 nv z (j4 + 1)).1)), some (.int (nI (j4 + 1)))]) (by rw [e4, nI_add]) rfl (by rw [e4]) (ih4 (by first | trivial | omega))
  · have hA_4 : ZI ((L_5minute_4 nv z nc).2) nv nc nr ne := ZI_min4 hZ nc (by omega)
    refine AR.run g_X5_minute_4_4 10 [some (.ref 16384), some (.int ((L_5minute_4 nv z nc).1)), some (.int (nI (nc)))] [.int (nI (1)), .ref 16385, .int (nI (nc))] _ [] rfl trivial ?_
    refine AR.ald (n := 0) (e := 1) ok_X5_minute_10 (by first | rfl | (simp only [nI_add, pk_mul]; first | done | rfl)) rfl (by omega) (by first | decide | omega) ?_
    refine AR.top hA_4.2.1.1 ?_
    refine AR.ge2N (tgt := 40) (a := nc) (b := nc) dc_X5_minute_11 (by decide) (by first | rfl | (simp only [nI_add, pk_mul]; first | done | rfl)) (by first | rfl | (simp only [nI_add, pk_mul]; first | done | rfl)) (by omega) (by omega) (fun c11_5 => ?_) (fun c11_5 => absurd c11_5 (by omega))
    refine AR.run g_X5_minute_40_2 42 [some (.ref 16384), some (.int ((L_5minute_4 nv z nc).1)), some (.int (nI (0)))] [] _ [] rfl trivial ?_
    refine AR.cast (L' := [some (.ref 16384), some (.int ((L_5minute_4 nv z nc).1)), some (.int (nI (0)))]) (by first | rfl | (rw [L_5minute_42])) rfl (by first | rfl | (rw [L_5minute_42])) (AR.loopN nr (fun j42 => [some (.ref 16384), some (.int ((L_5minute_4 nv z nc).1)), some (.int (nI (j42)))]) (fun j42 => (hp o0 a0 t0 p0 (mo (L_5minute_42 nv nc z j42) sa ro te fr to un ga pi be bm en sta sv ln th hh) u0 l0)) (fun j42 => True) (fun j42 hj42 hI42 ih42 => ?_) (fun hI42 => ?_) 0 (by omega) (by first | trivial | omega))
    · have hB_5 : ZI (L_5minute_42 nv nc z j42) nv nc nr ne := ZI_min42 hZ h4 j42 (by omega)
      refine AR.run g_X5_minute_42_4 48 [some (.ref 16384), some (.int ((L_5minute_4 nv z nc).1)), some (.int (nI (j42)))] [.int (nI (2)), .ref 16385, .int (nI (j42))] _ [] rfl trivial ?_
      refine AR.ald (n := 0) (e := 2) ok_X5_minute_48 (by first | rfl | (simp only [nI_add, pk_mul]; first | done | rfl)) rfl (by omega) (by first | decide | omega) ?_
      refine AR.top hB_5.2.2.1.1 ?_
      refine AR.ge2N (tgt := 88) (a := j42) (b := nr) dc_X5_minute_49 (by decide) (by first | rfl | (simp only [nI_add, pk_mul]; first | done | rfl)) (by first | rfl | (simp only [nI_add, pk_mul]; first | done | rfl)) (by omega) (by omega) (fun c49_6 => absurd c49_6 (by omega)) (fun c49_6 => ?_)
      refine AR.run g_X5_minute_52_10 65 [some (.ref 16384), some (.int ((L_5minute_4 nv z nc).1)), some (.int (nI (j42)))] [.int (((nI (111)) + ((nI (4)) * (nI (j42)))) + (nI (1))), .ref 16385, .int (((nI (111)) + ((nI (4)) * (nI (j42)))) + (nI (1))), .ref 16385] _ [] rfl trivial ?_
      refine AR.ald (n := 0) (e := ((111 + (4 * j42)) + 1)) ok_X5_minute_65 (by first | rfl | (simp only [nI_add, pk_mul]; first | done | rfl)) rfl (by omega) (by first | decide | omega) ?_
      refine AR.run g_X5_minute_66_3 69 [some (.ref 16384), some (.int ((L_5minute_4 nv z nc).1)), some (.int (nI (j42)))] [.int (nI (1)), .int (nI (j42)), .ref 16384, .int ((L_5minute_42 nv nc z j42) ((111 + (4 * j42)) + 1)), .int (((nI (111)) + ((nI (4)) * (nI (j42)))) + (nI (1))), .ref 16385] _ [] rfl trivial ?_
      refine AR.callV1 (16384) [.int (nI (j42)), .int (nI (1))] [.int ((L_5minute_42 nv nc z j42) ((111 + (4 * j42)) + 1)), .int (nI (((111 + (4 * j42)) + 1))), .ref 16385] lk_5_58 dc_X5_minute_69 rfl rfl (s_ofCarrier _ j42 1 (by omega) (by omega)) (by first | rfl | (simp only [nI_add, pk_mul]; first | done | rfl)) rfl ?_
      refine AR.le (tgt := 79) dc_X5_minute_72 (by decide) (fun c72_7 => ?_) (fun c72_7 => ?_)
      · refine AR.run g_X5_minute_79_2 81 [some (.ref 16384), some (.int ((L_5minute_4 nv z nc).1)), some (.int (nI (j42)))] [.int (((L_5minute_42 nv nc z j42) ((111 + (4 * j42)) + 1)) - (nI (0))), .int (nI (((111 + (4 * j42)) + 1))), .ref 16385] _ [] rfl trivial ?_
        refine AR.ast (n := 0) (e := ((111 + (4 * j42)) + 1)) (h1 := (hp o0 a0 t0 p0 (mo (upd (L_5minute_42 nv nc z j42) ((111 + (4 * j42)) + 1) (((L_5minute_42 nv nc z j42) ((111 + (4 * j42)) + 1)) - (nI (0)))) sa ro te fr to un ga pi be bm en sta sv ln th hh) u0 l0)) ok_X5_minute_81 (by first | rfl | (simp only [nI_add, pk_mul]; first | done | rfl)) rfl rfl (by omega) (by decide) rfl ?_
        refine AR.run g_X5_minute_82_2 42 [some (.ref 16384), some (.int ((L_5minute_4 nv z nc).1)), some (.int ((nI (j42)) + (nI (1))))] [] _ [] rfl trivial ?_
        have e8 : L_5minute_42 nv nc z (j42 + 1) = (upd (L_5minute_42 nv nc z j42) ((111 + (4 * j42)) + 1) (((L_5minute_42 nv nc z j42) ((111 + (4 * j42)) + 1)) - (nI (0)))) := by rw [L_5minute_42, B_5minute_42, if_pos c72_7]
        exact AR.cast (L' := [some (.ref 16384), some (.int ((L_5minute_4 nv z nc).1)), some (.int (nI (j42 + 1)))]) (by first | rfl | rw [nI_add]) rfl (by rw [e8]) (ih42 (by first | trivial | omega))
      · refine AR.run g_X5_minute_75_3 81 [some (.ref 16384), some (.int ((L_5minute_4 nv z nc).1)), some (.int (nI (j42)))] [.int (((L_5minute_42 nv nc z j42) ((111 + (4 * j42)) + 1)) - (nI (1))), .int (nI (((111 + (4 * j42)) + 1))), .ref 16385] _ [] rfl trivial ?_
        refine AR.ast (n := 0) (e := ((111 + (4 * j42)) + 1)) (h1 := (hp o0 a0 t0 p0 (mo (upd (L_5minute_42 nv nc z j42) ((111 + (4 * j42)) + 1) (((L_5minute_42 nv nc z j42) ((111 + (4 * j42)) + 1)) - (nI (1)))) sa ro te fr to un ga pi be bm en sta sv ln th hh) u0 l0)) ok_X5_minute_81 (by first | rfl | (simp only [nI_add, pk_mul]; first | done | rfl)) rfl rfl (by omega) (by decide) rfl ?_
        refine AR.run g_X5_minute_82_2 42 [some (.ref 16384), some (.int ((L_5minute_4 nv z nc).1)), some (.int ((nI (j42)) + (nI (1))))] [] _ [] rfl trivial ?_
        have e9 : L_5minute_42 nv nc z (j42 + 1) = (upd (L_5minute_42 nv nc z j42) ((111 + (4 * j42)) + 1) (((L_5minute_42 nv nc z j42) ((111 + (4 * j42)) + 1)) - (nI (1)))) := by rw [L_5minute_42, B_5minute_42, if_neg c72_7]
        exact AR.cast (L' := [some (.ref 16384), some (.int ((L_5minute_4 nv z nc).1)), some (.int (nI (j42 + 1)))]) (by first | rfl | rw [nI_add]) rfl (by rw [e9]) (ih42 (by first | trivial | omega))
    · have hB_9 : ZI (L_5minute_42 nv nc z nr) nv nc nr ne := ZI_min42 hZ h4 nr (by omega)
      refine AR.run g_X5_minute_42_4 48 [some (.ref 16384), some (.int ((L_5minute_4 nv z nc).1)), some (.int (nI (nr)))] [.int (nI (2)), .ref 16385, .int (nI (nr))] _ [] rfl trivial ?_
      refine AR.ald (n := 0) (e := 2) ok_X5_minute_48 (by first | rfl | (simp only [nI_add, pk_mul]; first | done | rfl)) rfl (by omega) (by first | decide | omega) ?_
      refine AR.top hB_9.2.2.1.1 ?_
      refine AR.ge2N (tgt := 88) (a := nr) (b := nr) dc_X5_minute_49 (by decide) (by first | rfl | (simp only [nI_add, pk_mul]; first | done | rfl)) (by first | rfl | (simp only [nI_add, pk_mul]; first | done | rfl)) (by omega) (by omega) (fun c49_10 => ?_) (fun c49_10 => absurd c49_10 (by omega))
      refine AR.run g_X5_minute_88_2 90 [some (.ref 16384), some (.int ((L_5minute_4 nv z nc).1)), some (.int (nI (0)))] [] _ [] rfl trivial ?_
      refine AR.cast (L' := [some (.ref 16384), some (.int ((L_5minute_4 nv z nc).1)), some (.int (nI (0)))]) (by first | rfl | (rw [L_5minute_90])) rfl (by first | rfl | (rw [L_5minute_90])) (AR.loopN nv (fun j90 => [some (.ref 16384), some (.int ((L_5minute_4 nv z nc).1)), some (.int (nI (j90)))]) (fun j90 => (hp o0 a0 t0 p0 (mo (L_5minute_90 nv nc nr z j90) sa ro te fr to un ga pi be bm en sta sv ln th hh) u0 l0)) (fun j90 => True) (fun j90 hj90 hI90 ih90 => ?_) (fun hI90 => ?_) 0 (by omega) (by first | trivial | omega))
      · have hC_10 : ZI (L_5minute_90 nv nc nr z j90) nv nc nr ne := ZI_min90 hZ h4 h3 j90 (by omega)
        refine AR.run g_X5_minute_90_4 96 [some (.ref 16384), some (.int ((L_5minute_4 nv z nc).1)), some (.int (nI (j90)))] [.int (nI (0)), .ref 16385, .int (nI (j90))] _ [] rfl trivial ?_
        refine AR.ald (n := 0) (e := 0) ok_X5_minute_96 (by first | rfl | (simp only [nI_add, pk_mul]; first | done | rfl)) rfl (by omega) (by first | decide | omega) ?_
        refine AR.top hC_10.1.1 ?_
        refine AR.ge2N (tgt := 139) (a := j90) (b := nv) dc_X5_minute_97 (by decide) (by first | rfl | (simp only [nI_add, pk_mul]; first | done | rfl)) (by first | rfl | (simp only [nI_add, pk_mul]; first | done | rfl)) (by omega) (by omega) (fun c97_11 => absurd c97_11 (by omega)) (fun c97_11 => ?_)
        refine AR.run g_X5_minute_100_10 115 [some (.ref 16384), some (.int ((L_5minute_4 nv z nc).1)), some (.int (nI (j90)))] [.int (((nI (11)) + ((nI (7)) * (nI (j90)))) + (nI (6))), .ref 16385, .int (((nI (11)) + ((nI (7)) * (nI (j90)))) + (nI (6))), .ref 16385] _ [] rfl trivial ?_
        refine AR.ald (n := 0) (e := ((11 + (7 * j90)) + 6)) ok_X5_minute_115 (by first | rfl | (simp only [nI_add, pk_mul]; first | done | rfl)) rfl (by omega) (by first | decide | omega) ?_
        refine AR.run g_X5_minute_116_3 120 [some (.ref 16384), some (.int ((L_5minute_4 nv z nc).1)), some (.int (nI (j90)))] [.int (nI (6)), .int (nI (j90)), .ref 16384, .int ((L_5minute_90 nv nc nr z j90) ((11 + (7 * j90)) + 6)), .int (((nI (11)) + ((nI (7)) * (nI (j90)))) + (nI (6))), .ref 16385] _ [] rfl trivial ?_
        refine AR.callV1 (16384) [.int (nI (j90)), .int (nI (6))] [.int ((L_5minute_90 nv nc nr z j90) ((11 + (7 * j90)) + 6)), .int (nI (((11 + (7 * j90)) + 6))), .ref 16385] lk_5_62 dc_X5_minute_120 rfl rfl (s_ofVolume _ j90 6 (by omega) (by omega)) (by first | rfl | (simp only [nI_add, pk_mul]; first | done | rfl)) rfl ?_
        refine AR.le (tgt := 130) dc_X5_minute_123 (by decide) (fun c123_12 => ?_) (fun c123_12 => ?_)
        · refine AR.run g_X5_minute_130_2 132 [some (.ref 16384), some (.int ((L_5minute_4 nv z nc).1)), some (.int (nI (j90)))] [.int (((L_5minute_90 nv nc nr z j90) ((11 + (7 * j90)) + 6)) - (nI (0))), .int (nI (((11 + (7 * j90)) + 6))), .ref 16385] _ [] rfl trivial ?_
          refine AR.ast (n := 0) (e := ((11 + (7 * j90)) + 6)) (h1 := (hp o0 a0 t0 p0 (mo (upd (L_5minute_90 nv nc nr z j90) ((11 + (7 * j90)) + 6) (((L_5minute_90 nv nc nr z j90) ((11 + (7 * j90)) + 6)) - (nI (0)))) sa ro te fr to un ga pi be bm en sta sv ln th hh) u0 l0)) ok_X5_minute_132 (by first | rfl | (simp only [nI_add, pk_mul]; first | done | rfl)) rfl rfl (by omega) (by decide) rfl ?_
          refine AR.run g_X5_minute_133_2 90 [some (.ref 16384), some (.int ((L_5minute_4 nv z nc).1)), some (.int ((nI (j90)) + (nI (1))))] [] _ [] rfl trivial ?_
          have e13 : L_5minute_90 nv nc nr z (j90 + 1) = (upd (L_5minute_90 nv nc nr z j90) ((11 + (7 * j90)) + 6) (((L_5minute_90 nv nc nr z j90) ((11 + (7 * j90)) + 6)) - (nI (0)))) := by rw [L_5minute_90, B_5minute_90, if_pos c123_12]
          exact AR.cast (L' := [some (.ref 16384), some (.int ((L_5minute_4 nv z nc).1)), some (.int (nI (j90 + 1)))]) (by first | rfl | rw [nI_add]) rfl (by rw [e13]) (ih90 (by first | trivial | omega))
        · refine AR.run g_X5_minute_126_3 132 [some (.ref 16384), some (.int ((L_5minute_4 nv z nc).1)), some (.int (nI (j90)))] [.int (((L_5minute_90 nv nc nr z j90) ((11 + (7 * j90)) + 6)) - (nI (1))), .int (nI (((11 + (7 * j90)) + 6))), .ref 16385] _ [] rfl trivial ?_
          refine AR.ast (n := 0) (e := ((11 + (7 * j90)) + 6)) (h1 := (hp o0 a0 t0 p0 (mo (upd (L_5minute_90 nv nc nr z j90) ((11 + (7 * j90)) + 6) (((L_5minute_90 nv nc nr z j90) ((11 + (7 * j90)) + 6)) - (nI (1)))) sa ro te fr to un ga pi be bm en sta sv ln th hh) u0 l0)) ok_X5_minute_132 (by first | rfl | (simp only [nI_add, pk_mul]; first | done | rfl)) rfl rfl (by omega) (by decide) rfl ?_
          refine AR.run g_X5_minute_133_2 90 [some (.ref 16384), some (.int ((L_5minute_4 nv z nc).1)), some (.int ((nI (j90)) + (nI (1))))] [] _ [] rfl trivial ?_
          have e14 : L_5minute_90 nv nc nr z (j90 + 1) = (upd (L_5minute_90 nv nc nr z j90) ((11 + (7 * j90)) + 6) (((L_5minute_90 nv nc nr z j90) ((11 + (7 * j90)) + 6)) - (nI (1)))) := by rw [L_5minute_90, B_5minute_90, if_neg c123_12]
          exact AR.cast (L' := [some (.ref 16384), some (.int ((L_5minute_4 nv z nc).1)), some (.int (nI (j90 + 1)))]) (by first | rfl | rw [nI_add]) rfl (by rw [e14]) (ih90 (by first | trivial | omega))
      · have hC_14 : ZI (L_5minute_90 nv nc nr z nv) nv nc nr ne := ZI_min90 hZ h4 h3 nv (by omega)
        refine AR.run g_X5_minute_90_4 96 [some (.ref 16384), some (.int ((L_5minute_4 nv z nc).1)), some (.int (nI (nv)))] [.int (nI (0)), .ref 16385, .int (nI (nv))] _ [] rfl trivial ?_
        refine AR.ald (n := 0) (e := 0) ok_X5_minute_96 (by first | rfl | (simp only [nI_add, pk_mul]; first | done | rfl)) rfl (by omega) (by first | decide | omega) ?_
        refine AR.top hC_14.1.1 ?_
        refine AR.ge2N (tgt := 139) (a := nv) (b := nv) dc_X5_minute_97 (by decide) (by first | rfl | (simp only [nI_add, pk_mul]; first | done | rfl)) (by first | rfl | (simp only [nI_add, pk_mul]; first | done | rfl)) (by omega) (by omega) (fun c97_15 => ?_) (fun c97_15 => absurd c97_15 (by omega))
        refine AR.run g_X5_minute_139_4 145 [some (.ref 16384), some (.int ((L_5minute_4 nv z nc).1)), some (.int (nI (nv)))] [.int (nI (3)), .ref 16385, .int (nI (3)), .ref 16385] _ [] rfl trivial ?_
        refine AR.ald (n := 0) (e := 3) ok_X5_minute_145 (by first | rfl | (simp only [nI_add, pk_mul]; first | done | rfl)) rfl (by omega) (by first | decide | omega) ?_
        refine AR.run g_X5_minute_146_2 148 [some (.ref 16384), some (.int ((L_5minute_4 nv z nc).1)), some (.int (nI (nv)))] [.int (((L_5minute_90 nv nc nr z nv) 3) + (nI (1))), .int (nI (3)), .ref 16385] _ [] rfl trivial ?_
        refine AR.ast (n := 0) (e := 3) (h1 := (hp o0 a0 t0 p0 (mo (upd (L_5minute_90 nv nc nr z nv) 3 (((L_5minute_90 nv nc nr z nv) 3) + (nI (1)))) sa ro te fr to un ga pi be bm en sta sv ln th hh) u0 l0)) ok_X5_minute_148 (by first | rfl | (simp only [nI_add, pk_mul]; first | done | rfl)) rfl rfl (by omega) (by decide) rfl ?_
        refine AR.run g_X5_minute_149_1 150 [some (.ref 16384), some (.int ((L_5minute_4 nv z nc).1)), some (.int (nI (nv)))] [.int ((L_5minute_4 nv z nc).1)] _ [] rfl trivial ?_
        have e16_0 : F_5minute nv nc z = ((L_5minute_4 nv z nc).1) := by rw [F_5minute]
        have e16_1 : F_5minute_z nv nc nr z = (upd (L_5minute_90 nv nc nr z nv) 3 (((L_5minute_90 nv nc nr z nv) 3) + (nI (1)))) := by rw [F_5minute_z]
        exact AR.retI dc_X5_minute_150 rfl e16_0.symm (by rw [e16_1])
theorem ZI_minute {z : Nat → Int32} {nv nc nr ne : Nat} (hZ : ZI z nv nc nr ne) : ZI (F_5minute_z nv nc nr z) nv nc nr ne := by
  unfold F_5minute_z
  exact ZI_upd ⟨by omega, by omega, by omega, by omega, fun v9 hv9 => by omega⟩ (ZI_min90 hZ hZ.2.1.2 hZ.2.2.1.2 nv hZ.1.2)
end
section
/-- n minutes -/
def mnN (nv nc nr : Nat) (z : Nat → Int32) : Nat → (Nat → Int32)
  | 0 => z
  | j + 1 => F_5minute_z nv nc nr (mnN nv nc nr z j)
theorem ZI_mnN {z : Nat → Int32} {nv nc nr ne : Nat} (hZ : ZI z nv nc nr ne) : ∀ j : Nat, ZI (mnN nv nc nr z j) nv nc nr ne
  | 0 => hZ
  | j + 1 => ZI_minute (ZI_mnN hZ j)
def B_5passedNow_13 (nv : Nat) (nc : Nat) (nr : Nat) (j13 : Nat) (y13_z : Nat → Int32) : (Nat → Int32) := (F_5minute_z nv nc nr y13_z)
def L_5passedNow_13 (nv : Nat) (nc : Nat) (nr : Nat) (z : Nat → Int32) : Nat → (Nat → Int32)
  | 0 => z
  | j + 1 => B_5passedNow_13 nv nc nr j (L_5passedNow_13 nv nc nr z  j)
theorem pN_mn (nv nc nr : Nat) (z : Nat → Int32) : ∀ j : Nat, L_5passedNow_13 nv nc nr z j = mnN nv nc nr z j
  | 0 => rfl
  | j + 1 => by
    show F_5minute_z nv nc nr (L_5passedNow_13 nv nc nr z j) = _
    rw [pN_mn nv nc nr z j]
    rfl
def F_5passedNow (m : Nat) (c : Int32) (nv : Nat) (nc : Nat) (nr : Nat) (z : Nat → Int32) : Int32 := ((L_5doneBy_4 c (L_5passedNow_13 nv nc nr z m) nc) - (L_5doneBy_4 c z nc))
def F_5passedNow_z (m : Nat) (nv : Nat) (nc : Nat) (nr : Nat) (z : Nat → Int32) (sa : Nat → Int32) : Nat → Int32 := (cpK (cpK z sa 1863) (L_5passedNow_13 nv nc nr z m) 1863)
def F_5passedNow_sa (z : Nat → Int32) (sa : Nat → Int32) : Nat → Int32 := (cpK z sa 1863)
theorem g_X5_passedNow_0_2 : ab_oks M_X5_passedNow [(0, .aload_n 0, 1, 0, 0, 0, .null), (1, .iload_n 2, 1, 2, 0, 0, .null)] = true := by decide +kernel
theorem lk_5_182 : ab_lkV "LeafCradlesModel" 182 M_X5_doneBy 1 [1241, 1243, 72, 97, 1244] = true := by decide +kernel
theorem dc_X5_passedNow_2 : decode (AM.bytes M_X5_passedNow) 2 = .ok (.invokevirtual 182, 3) := by decide +kernel
theorem g_X5_passedNow_5_2 : ab_oks M_X5_passedNow [(5, .istore_n 3, 1, 3, 0, 0, .null), (6, .aload_n 0, 1, 0, 0, 0, .null)] = true := by decide +kernel
theorem lk_5_185 : ab_lkV "LeafCradlesModel" 185 M_X5_keep 0 [1245, 1247, 73, 97, 1248] = true := by decide +kernel
theorem dc_X5_passedNow_7 : decode (AM.bytes M_X5_passedNow) 7 = .ok (.invokevirtual 185, 3) := by decide +kernel
theorem g_X5_passedNow_10_2 : ab_oks M_X5_passedNow [(10, .iconst 0, 1, 0, 0, 0, .int (nI (0))), (11, .istore 4, 2, 4, 0, 0, .null)] = true := by decide +kernel
theorem g_X5_passedNow_13_2 : ab_oks M_X5_passedNow [(13, .iload 4, 2, 4, 0, 0, .null), (15, .iload_n 1, 1, 1, 0, 0, .null)] = true := by decide +kernel
theorem dc_X5_passedNow_16 : decode (AM.bytes M_X5_passedNow) 16 = .ok (.if_icmp .ge 14, 3) := by decide +kernel
theorem g_X5_passedNow_19_1 : ab_oks M_X5_passedNow [(19, .aload_n 0, 1, 0, 0, 0, .null)] = true := by decide +kernel
theorem lk_5_107 : ab_lkV "LeafCradlesModel" 107 M_X5_minute 0 [1081, 1083, 48, 97, 1084] = true := by decide +kernel
theorem dc_X5_passedNow_20 : decode (AM.bytes M_X5_passedNow) 20 = .ok (.invokevirtual 107, 3) := by decide +kernel
theorem g_X5_passedNow_23_3 : ab_oks M_X5_passedNow [(23, .pop, 1, 0, 0, 0, .null), (24, .iinc 4 1, 3, 4, 0, 0, .int (nI (1))), (27, .goto (-14), 3, 13, 0, 0, .null)] = true := by decide +kernel
theorem g_X5_passedNow_30_2 : ab_oks M_X5_passedNow [(30, .aload_n 0, 1, 0, 0, 0, .null), (31, .iload_n 2, 1, 2, 0, 0, .null)] = true := by decide +kernel
theorem dc_X5_passedNow_32 : decode (AM.bytes M_X5_passedNow) 32 = .ok (.invokevirtual 182, 3) := by decide +kernel
theorem g_X5_passedNow_35_2 : ab_oks M_X5_passedNow [(35, .istore 4, 2, 4, 0, 0, .null), (37, .aload_n 0, 1, 0, 0, 0, .null)] = true := by decide +kernel
theorem lk_5_188 : ab_lkV "LeafCradlesModel" 188 M_X5_bring0 0 [1249, 1251, 74, 97, 1252] = true := by decide +kernel
theorem dc_X5_passedNow_38 : decode (AM.bytes M_X5_passedNow) 38 = .ok (.invokevirtual 188, 3) := by decide +kernel
theorem g_X5_passedNow_41_3 : ab_oks M_X5_passedNow [(41, .iload 4, 2, 4, 0, 0, .null), (43, .iload_n 3, 1, 3, 0, 0, .null), (44, .isub, 1, 0, 0, 0, .null)] = true := by decide +kernel
theorem dc_X5_passedNow_45 : decode (AM.bytes M_X5_passedNow) 45 = .ok (.ireturn, 1) := by decide +kernel
set_option maxRecDepth 100000 in
set_option maxHeartbeats 4000000 in
theorem s_5passedNow {E : AE} (d : Nat) (m : Nat) (c : Int32) {nv : Nat} {nc : Nat} {nr : Nat} {ne : Nat}  {o0 a0 t0 p0 u0 l0 : List AC} {z sa ro te fr to un ga pi be : Nat → Int32} {bm en sta sv ln th : Int32} {hh : Int64} (hZ : ZI z nv nc nr ne) (hm : m ≤ 500) : CT E M_X5_passedNow (d + 4) [.ref 16384, .int (nI (m)), .int (c)] (hp o0 a0 t0 p0 (mo z sa ro te fr to un ga pi be bm en sta sv ln th hh) u0 l0) (.inl (some (.int (F_5passedNow m c nv nc nr z)))) (hp o0 a0 t0 p0 (mo (F_5passedNow_z m nv nc nr z sa) (F_5passedNow_sa z sa) ro te fr to un ga pi be bm en sta sv ln th hh) u0 l0) 0 0 := by
  obtain ⟨⟨hnv, h12⟩, ⟨hnc, h4⟩, ⟨hnr, h3⟩, ⟨hne, h60⟩, hLV⟩ := id hZ
  refine CT.of (L := [some (.ref 16384), some (.int (nI (m))), some (.int (c)), none, none]) rfl rfl ?_
  refine AR.run g_X5_passedNow_0_2 2 [some (.ref 16384), some (.int (nI (m))), some (.int (c)), none, none] [.int (c), .ref 16384] _ [] rfl trivial ?_
  refine AR.callV1 (16384) [.int (c)] [] lk_5_182 dc_X5_passedNow_2 rfl rfl (s_5doneBy _ c (by assumption)) (by first | rfl | (simp only [nI_add, pk_mul]; first | done | rfl)) rfl ?_
  refine AR.run g_X5_passedNow_5_2 7 [some (.ref 16384), some (.int (nI (m))), some (.int (c)), some (.int (L_5doneBy_4 c z nc)), none] [.ref 16384] _ [] rfl trivial ?_
  refine AR.callV0 (16384) [] [] lk_5_185 dc_X5_passedNow_7 rfl rfl (s_keep _  ) (by first | rfl | (simp only [nI_add, pk_mul]; first | done | rfl)) rfl ?_
  refine AR.run g_X5_passedNow_10_2 13 [some (.ref 16384), some (.int (nI (m))), some (.int (c)), some (.int (L_5doneBy_4 c z nc)), some (.int (nI (0)))] [] _ [] rfl trivial ?_
  refine AR.cast (L' := [some (.ref 16384), some (.int (nI (m))), some (.int (c)), some (.int (L_5doneBy_4 c z nc)), some (.int (nI (0)))]) (by first | rfl | (rw [L_5passedNow_13])) rfl (by first | rfl | (rw [L_5passedNow_13])) (AR.loopN m (fun j13 => [some (.ref 16384), some (.int (nI (m))), some (.int (c)), some (.int (L_5doneBy_4 c z nc)), some (.int (nI (j13)))]) (fun j13 => (hp o0 a0 t0 p0 (mo (L_5passedNow_13 nv nc nr z j13) (cpK z sa 1863) ro te fr to un ga pi be bm en sta sv ln th hh) u0 l0)) (fun j13 => True) (fun j13 hj13 hI13 ih13 => ?_) (fun hI13 => ?_) 0 (by omega) (by first | trivial | omega))
  · have hA_0 : ZI (L_5passedNow_13 nv nc nr z j13) nv nc nr ne := by rw [pN_mn]; exact ZI_mnN hZ j13
    refine AR.run g_X5_passedNow_13_2 16 [some (.ref 16384), some (.int (nI (m))), some (.int (c)), some (.int (L_5doneBy_4 c z nc)), some (.int (nI (j13)))] [.int (nI (m)), .int (nI (j13))] _ [] rfl trivial ?_
    refine AR.ge2N (tgt := 30) (a := j13) (b := m) dc_X5_passedNow_16 (by decide) (by first | rfl | (simp only [nI_add, pk_mul]; first | done | rfl)) (by first | rfl | (simp only [nI_add, pk_mul]; first | done | rfl)) (by omega) (by omega) (fun c16_1 => absurd c16_1 (by omega)) (fun c16_1 => ?_)
    refine AR.run g_X5_passedNow_19_1 20 [some (.ref 16384), some (.int (nI (m))), some (.int (c)), some (.int (L_5doneBy_4 c z nc)), some (.int (nI (j13)))] [.ref 16384] _ [] rfl trivial ?_
    refine AR.callV1 (16384) [] [] lk_5_107 dc_X5_passedNow_20 rfl rfl (s_5minute _  (by assumption)) (by first | rfl | (simp only [nI_add, pk_mul]; first | done | rfl)) rfl ?_
    refine AR.run g_X5_passedNow_23_3 13 [some (.ref 16384), some (.int (nI (m))), some (.int (c)), some (.int (L_5doneBy_4 c z nc)), some (.int ((nI (j13)) + (nI (1))))] [] _ [] rfl trivial ?_
    have e2 : L_5passedNow_13 nv nc nr z (j13 + 1) = (F_5minute_z nv nc nr (L_5passedNow_13 nv nc nr z j13)) := by rw [L_5passedNow_13, B_5passedNow_13]
    exact AR.cast (L' := [some (.ref 16384), some (.int (nI (m))), some (.int (c)), some (.int (L_5doneBy_4 c z nc)), some (.int (nI (j13 + 1)))]) (by first | rfl | rw [nI_add]) rfl (by rw [e2]) (ih13 (by first | trivial | omega))
  · have hA_2 : ZI (L_5passedNow_13 nv nc nr z m) nv nc nr ne := by rw [pN_mn]; exact ZI_mnN hZ m
    refine AR.run g_X5_passedNow_13_2 16 [some (.ref 16384), some (.int (nI (m))), some (.int (c)), some (.int (L_5doneBy_4 c z nc)), some (.int (nI (m)))] [.int (nI (m)), .int (nI (m))] _ [] rfl trivial ?_
    refine AR.ge2N (tgt := 30) (a := m) (b := m) dc_X5_passedNow_16 (by decide) (by first | rfl | (simp only [nI_add, pk_mul]; first | done | rfl)) (by first | rfl | (simp only [nI_add, pk_mul]; first | done | rfl)) (by omega) (by omega) (fun c16_3 => ?_) (fun c16_3 => absurd c16_3 (by omega))
    refine AR.run g_X5_passedNow_30_2 32 [some (.ref 16384), some (.int (nI (m))), some (.int (c)), some (.int (L_5doneBy_4 c z nc)), some (.int (nI (m)))] [.int (c), .ref 16384] _ [] rfl trivial ?_
    refine AR.callV1 (16384) [.int (c)] [] lk_5_182 dc_X5_passedNow_32 rfl rfl (s_5doneBy _ c (by assumption)) (by first | rfl | (simp only [nI_add, pk_mul]; first | done | rfl)) rfl ?_
    refine AR.run g_X5_passedNow_35_2 38 [some (.ref 16384), some (.int (nI (m))), some (.int (c)), some (.int (L_5doneBy_4 c z nc)), some (.int (L_5doneBy_4 c (L_5passedNow_13 nv nc nr z m) nc))] [.ref 16384] _ [] rfl trivial ?_
    refine AR.callV0 (16384) [] [] lk_5_188 dc_X5_passedNow_38 rfl rfl (s_bring0 _  ) (by first | rfl | (simp only [nI_add, pk_mul]; first | done | rfl)) rfl ?_
    refine AR.run g_X5_passedNow_41_3 45 [some (.ref 16384), some (.int (nI (m))), some (.int (c)), some (.int (L_5doneBy_4 c z nc)), some (.int (L_5doneBy_4 c (L_5passedNow_13 nv nc nr z m) nc))] [.int ((L_5doneBy_4 c (L_5passedNow_13 nv nc nr z m) nc) - (L_5doneBy_4 c z nc))] _ [] rfl trivial ?_
    have e4_0 : F_5passedNow m c nv nc nr z = ((L_5doneBy_4 c (L_5passedNow_13 nv nc nr z m) nc) - (L_5doneBy_4 c z nc)) := by rw [F_5passedNow]
    have e4_1 : F_5passedNow_z m nv nc nr z sa = (cpK (cpK z sa 1863) (L_5passedNow_13 nv nc nr z m) 1863) := by rw [F_5passedNow_z]
    have e4_2 : F_5passedNow_sa z sa = (cpK z sa 1863) := by rw [F_5passedNow_sa]
    exact AR.retI dc_X5_passedNow_45 rfl e4_0.symm (by rw [e4_1, e4_2])
def W_5doneNow_6 (nv : Nat) (nc : Nat) (nr : Nat) (z : Nat → Int32) (sa : Nat → Int32) : Nat → Nat → (Nat → Int32) → (Int32) × (Nat → Int32)
  | 0, j6, y6_z => if j6 ≤ 2000 then (nI (j6), cpK (cpK z sa 1863) y6_z 1863) else (-1, cpK (cpK z sa 1863) y6_z 1863)
  | f6 + 1, j6, y6_z => if (L_5isAny_4 nv y6_z nc) = 0 then if j6 ≤ 2000 then (nI (j6), cpK (cpK z sa 1863) y6_z 1863) else (-1, cpK (cpK z sa 1863) y6_z 1863) else W_5doneNow_6 nv nc nr z sa f6 (j6 + 1) (F_5minute_z nv nc nr y6_z)
def F_5doneNow (nv : Nat) (nc : Nat) (nr : Nat) (z : Nat → Int32) (sa : Nat → Int32) : Int32 := ((W_5doneNow_6 nv nc nr z sa 2001 0 z).1)
def F_5doneNow_z (nv : Nat) (nc : Nat) (nr : Nat) (z : Nat → Int32) (sa : Nat → Int32) : Nat → Int32 := ((W_5doneNow_6 nv nc nr z sa 2001 0 z).2)
def F_5doneNow_sa (z : Nat → Int32) (sa : Nat → Int32) : Nat → Int32 := (cpK z sa 1863)
theorem g_X5_doneNow_0_1 : ab_oks M_X5_doneNow [(0, .aload_n 0, 1, 0, 0, 0, .null)] = true := by decide +kernel
theorem dc_X5_doneNow_1 : decode (AM.bytes M_X5_doneNow) 1 = .ok (.invokevirtual 185, 3) := by decide +kernel
theorem g_X5_doneNow_4_2 : ab_oks M_X5_doneNow [(4, .iconst 0, 1, 0, 0, 0, .int (nI (0))), (5, .istore_n 1, 1, 1, 0, 0, .null)] = true := by decide +kernel
theorem g_X5_doneNow_6_2 : ab_oks M_X5_doneNow [(6, .iload_n 1, 1, 1, 0, 0, .null), (7, .sipush 2000, 3, 0, 0, 0, .int (nI (2000)))] = true := by decide +kernel
theorem dc_X5_doneNow_10 : decode (AM.bytes M_X5_doneNow) 10 = .ok (.if_icmp .gt 21, 3) := by decide +kernel
theorem g_X5_doneNow_31_1 : ab_oks M_X5_doneNow [(31, .aload_n 0, 1, 0, 0, 0, .null)] = true := by decide +kernel
theorem dc_X5_doneNow_32 : decode (AM.bytes M_X5_doneNow) 32 = .ok (.invokevirtual 188, 3) := by decide +kernel
theorem g_X5_doneNow_35_2 : ab_oks M_X5_doneNow [(35, .iload_n 1, 1, 1, 0, 0, .null), (36, .sipush 2000, 3, 0, 0, 0, .int (nI (2000)))] = true := by decide +kernel
theorem dc_X5_doneNow_39 : decode (AM.bytes M_X5_doneNow) 39 = .ok (.if_icmp .le 7, 3) := by decide +kernel
theorem g_X5_doneNow_46_1 : ab_oks M_X5_doneNow [(46, .iload_n 1, 1, 1, 0, 0, .null)] = true := by decide +kernel
theorem dc_X5_doneNow_47 : decode (AM.bytes M_X5_doneNow) 47 = .ok (.ireturn, 1) := by decide +kernel
theorem g_X5_doneNow_42_2 : ab_oks M_X5_doneNow [(42, .iconst (-1), 1, 0, 0, 0, .int (-1)), (43, .goto 4, 3, 47, 0, 0, .null)] = true := by decide +kernel
theorem g_X5_doneNow_13_1 : ab_oks M_X5_doneNow [(13, .aload_n 0, 1, 0, 0, 0, .null)] = true := by decide +kernel
theorem lk_5_194 : ab_lkV "LeafCradlesModel" 194 M_X5_isAny 0 [1261, 1263, 76, 97, 1264] = true := by decide +kernel
theorem dc_X5_doneNow_14 : decode (AM.bytes M_X5_doneNow) 14 = .ok (.invokevirtual 194, 3) := by decide +kernel
theorem dc_X5_doneNow_17 : decode (AM.bytes M_X5_doneNow) 17 = .ok (.ifCond .eq 14, 3) := by decide +kernel
theorem g_X5_doneNow_20_1 : ab_oks M_X5_doneNow [(20, .aload_n 0, 1, 0, 0, 0, .null)] = true := by decide +kernel
theorem dc_X5_doneNow_21 : decode (AM.bytes M_X5_doneNow) 21 = .ok (.invokevirtual 107, 3) := by decide +kernel
theorem g_X5_doneNow_24_3 : ab_oks M_X5_doneNow [(24, .pop, 1, 0, 0, 0, .null), (25, .iinc 1 1, 3, 1, 0, 0, .int (nI (1))), (28, .goto (-22), 3, 6, 0, 0, .null)] = true := by decide +kernel
set_option maxRecDepth 100000 in
set_option maxHeartbeats 4000000 in
theorem s_5doneNow {E : AE} (d : Nat) {nv : Nat} {nc : Nat} {nr : Nat} {ne : Nat}  {o0 a0 t0 p0 u0 l0 : List AC} {z sa ro te fr to un ga pi be : Nat → Int32} {bm en sta sv ln th : Int32} {hh : Int64} (hZ : ZI z nv nc nr ne) : CT E M_X5_doneNow (d + 4) [.ref 16384] (hp o0 a0 t0 p0 (mo z sa ro te fr to un ga pi be bm en sta sv ln th hh) u0 l0) (.inl (some (.int (F_5doneNow nv nc nr z sa)))) (hp o0 a0 t0 p0 (mo (F_5doneNow_z nv nc nr z sa) (F_5doneNow_sa z sa) ro te fr to un ga pi be bm en sta sv ln th hh) u0 l0) 0 0 := by
  obtain ⟨⟨hnv, h12⟩, ⟨hnc, h4⟩, ⟨hnr, h3⟩, ⟨hne, h60⟩, hLV⟩ := id hZ
  refine CT.of (L := [some (.ref 16384), none]) rfl rfl ?_
  refine AR.run g_X5_doneNow_0_1 1 [some (.ref 16384), none] [.ref 16384] _ [] rfl trivial ?_
  refine AR.callV0 (16384) [] [] lk_5_185 dc_X5_doneNow_1 rfl rfl (s_keep _  ) (by first | rfl | (simp only [nI_add, pk_mul]; first | done | rfl)) rfl ?_
  refine AR.run g_X5_doneNow_4_2 6 [some (.ref 16384), some (.int (nI (0)))] [] _ [] rfl trivial ?_
  have hW : ∀ (f6 j6 : Nat) (y6_z : Nat → Int32), j6 + f6 = 2001 → ZI y6_z nv nc nr ne → AR E M_X5_doneNow (d + 4) 6 [some (.ref 16384), some (.int (nI (j6)))] [] (hp o0 a0 t0 p0 (mo y6_z (cpK z sa 1863) ro te fr to un ga pi be bm en sta sv ln th hh) u0 l0) (.inl (some (.int ((W_5doneNow_6 nv nc nr z sa f6 j6 y6_z).1)))) (hp o0 a0 t0 p0 (mo ((W_5doneNow_6 nv nc nr z sa f6 j6 y6_z).2) (cpK z sa 1863) ro te fr to un ga pi be bm en sta sv ln th hh) u0 l0) 0 0 := by
    intro f6
    induction f6 with
    | zero => 
      intro j6 y6_z hj6 hI6
      refine AR.run g_X5_doneNow_6_2 10 [some (.ref 16384), some (.int (nI (j6)))] [.int (nI (2000)), .int (nI (j6))] _ [] rfl trivial ?_
      refine AR.gt2N (tgt := 31) (a := j6) (b := 2000) dc_X5_doneNow_10 (by decide) (by first | rfl | (simp only [nI_add, pk_mul]; first | done | rfl)) (by first | rfl | (simp only [nI_add, pk_mul]; first | done | rfl)) (by omega) (by omega) (fun c10_1 => ?_) (fun c10_1 => absurd c10_1 (by omega))
      refine AR.run g_X5_doneNow_31_1 32 [some (.ref 16384), some (.int (nI (j6)))] [.ref 16384] _ [] rfl trivial ?_
      refine AR.callV0 (16384) [] [] lk_5_188 dc_X5_doneNow_32 rfl rfl (s_bring0 _  ) (by first | rfl | (simp only [nI_add, pk_mul]; first | done | rfl)) rfl ?_
      refine AR.run g_X5_doneNow_35_2 39 [some (.ref 16384), some (.int (nI (j6)))] [.int (nI (2000)), .int (nI (j6))] _ [] rfl trivial ?_
      refine AR.le2N (tgt := 46) (a := j6) (b := 2000) dc_X5_doneNow_39 (by decide) (by first | rfl | (simp only [nI_add, pk_mul]; first | done | rfl)) (by first | rfl | (simp only [nI_add, pk_mul]; first | done | rfl)) (by omega) (by omega) (fun c39_2 => ?_) (fun c39_2 => ?_)
      · refine AR.run g_X5_doneNow_46_1 47 [some (.ref 16384), some (.int (nI (j6)))] [.int (nI (j6))] _ [] rfl trivial ?_
        have e3 : W_5doneNow_6 nv nc nr z sa 0 j6 y6_z = (nI (j6), cpK (cpK z sa 1863) y6_z 1863) := by rw [W_5doneNow_6, if_pos (show j6 ≤ 2000 from by omega)]
        rw [e3]
        exact AR.retI dc_X5_doneNow_47 rfl rfl rfl
      · refine AR.run g_X5_doneNow_42_2 47 [some (.ref 16384), some (.int (nI (j6)))] [.int (-1)] _ [] rfl trivial ?_
        have e4 : W_5doneNow_6 nv nc nr z sa 0 j6 y6_z = (-1, cpK (cpK z sa 1863) y6_z 1863) := by rw [W_5doneNow_6, if_neg (show ¬ (j6 ≤ 2000) from by omega)]
        rw [e4]
        exact AR.retI dc_X5_doneNow_47 rfl rfl rfl
    | succ f6 ih6 => 
      intro j6 y6_z hj6 hI6
      refine AR.run g_X5_doneNow_6_2 10 [some (.ref 16384), some (.int (nI (j6)))] [.int (nI (2000)), .int (nI (j6))] _ [] rfl trivial ?_
      refine AR.gt2N (tgt := 31) (a := j6) (b := 2000) dc_X5_doneNow_10 (by decide) (by first | rfl | (simp only [nI_add, pk_mul]; first | done | rfl)) (by first | rfl | (simp only [nI_add, pk_mul]; first | done | rfl)) (by omega) (by omega) (fun c10_5 => absurd c10_5 (by omega)) (fun c10_5 => ?_)
      refine AR.run g_X5_doneNow_13_1 14 [some (.ref 16384), some (.int (nI (j6)))] [.ref 16384] _ [] rfl trivial ?_
      refine AR.callV1 (16384) [] [] lk_5_194 dc_X5_doneNow_14 rfl rfl (s_5isAny _  (by assumption)) (by first | rfl | (simp only [nI_add, pk_mul]; first | done | rfl)) rfl ?_
      refine AR.eq (tgt := 31) dc_X5_doneNow_17 (by decide) (fun c17_6 => ?_) (fun c17_6 => ?_)
      · refine AR.run g_X5_doneNow_31_1 32 [some (.ref 16384), some (.int (nI (j6)))] [.ref 16384] _ [] rfl trivial ?_
        refine AR.callV0 (16384) [] [] lk_5_188 dc_X5_doneNow_32 rfl rfl (s_bring0 _  ) (by first | rfl | (simp only [nI_add, pk_mul]; first | done | rfl)) rfl ?_
        refine AR.run g_X5_doneNow_35_2 39 [some (.ref 16384), some (.int (nI (j6)))] [.int (nI (2000)), .int (nI (j6))] _ [] rfl trivial ?_
        refine AR.le2N (tgt := 46) (a := j6) (b := 2000) dc_X5_doneNow_39 (by decide) (by first | rfl | (simp only [nI_add, pk_mul]; first | done | rfl)) (by first | rfl | (simp only [nI_add, pk_mul]; first | done | rfl)) (by omega) (by omega) (fun c39_7 => ?_) (fun c39_7 => ?_)
        · refine AR.run g_X5_doneNow_46_1 47 [some (.ref 16384), some (.int (nI (j6)))] [.int (nI (j6))] _ [] rfl trivial ?_
          have e8 : W_5doneNow_6 nv nc nr z sa (f6 + 1) j6 y6_z = (nI (j6), cpK (cpK z sa 1863) y6_z 1863) := by rw [W_5doneNow_6, if_pos c17_6, if_pos (show j6 ≤ 2000 from by omega)]
          rw [e8]
          exact AR.retI dc_X5_doneNow_47 rfl rfl rfl
        · refine AR.run g_X5_doneNow_42_2 47 [some (.ref 16384), some (.int (nI (j6)))] [.int (-1)] _ [] rfl trivial ?_
          have e9 : W_5doneNow_6 nv nc nr z sa (f6 + 1) j6 y6_z = (-1, cpK (cpK z sa 1863) y6_z 1863) := by rw [W_5doneNow_6, if_pos c17_6, if_neg (show ¬ (j6 ≤ 2000) from by omega)]
          rw [e9]
          exact AR.retI dc_X5_doneNow_47 rfl rfl rfl
      · refine AR.run g_X5_doneNow_20_1 21 [some (.ref 16384), some (.int (nI (j6)))] [.ref 16384] _ [] rfl trivial ?_
        refine AR.callV1 (16384) [] [] lk_5_107 dc_X5_doneNow_21 rfl rfl (s_5minute _  (by assumption)) (by first | rfl | (simp only [nI_add, pk_mul]; first | done | rfl)) rfl ?_
        refine AR.run g_X5_doneNow_24_3 6 [some (.ref 16384), some (.int ((nI (j6)) + (nI (1))))] [] _ [] rfl trivial ?_
        have e10 : W_5doneNow_6 nv nc nr z sa (f6 + 1) j6 y6_z = W_5doneNow_6 nv nc nr z sa f6 (j6 + 1) (F_5minute_z nv nc nr y6_z) := by rw [W_5doneNow_6, if_neg c17_6]
        rw [e10]
        exact AR.cast (L' := [some (.ref 16384), some (.int (nI (j6 + 1)))]) (by first | rfl | rw [nI_add]) rfl rfl (ih6 (j6 + 1) (F_5minute_z nv nc nr y6_z) (by omega) (ZI_minute hI6))
  exact AR.end' (by first | rfl | (simp only [F_5doneNow, F_5doneNow_z, F_5doneNow_sa])) (by first | rfl | (simp only [F_5doneNow, F_5doneNow_z, F_5doneNow_sa])) (AR.cast rfl rfl rfl (hW 2001 0 z (by omega) hZ))
def F_5mayHave (c : Nat) (v : Nat) (nv : Nat) (z : Nat → Int32) : Int32 := if (z (11 + 7 * v + 5)) = 0 then if (z (11 + 7 * v + 6)) = 0 then if (z (95 + 4 * c + 0)) < (z (11 + 7 * v + 1)) then (nI (0)) else if (z (95 + 4 * c + 1)) < (z (11 + 7 * v + 3)) then (nI (0)) else if (oI (vo z (nI (c)) nv)) = (-1) then (nI (1)) else (nI (0)) else if (z (95 + 4 * c + 0)) < (z (11 + 7 * v + 1)) then (nI (0)) else if (z (95 + 4 * c + 1)) < (z (11 + 7 * v + 3)) then (nI (0)) else (nI (0)) else if (z (95 + 4 * c + 0)) < (z (11 + 7 * v + 1)) then (nI (0)) else if (z (95 + 4 * c + 1)) < (z (11 + 7 * v + 3)) then (nI (0)) else (nI (0))
theorem F_5mayHave_01 (c : Nat) (v : Nat) (nv : Nat) (z : Nat → Int32) : F_5mayHave c v nv z = nI 0 ∨ F_5mayHave c v nv z = nI 1 := by
  unfold F_5mayHave
  (repeat' split) <;> first | exact Or.inl rfl | exact Or.inr rfl
theorem g_X5_mayHave_0_3 : ab_oks M_X5_mayHave [(0, .aload_n 0, 1, 0, 0, 0, .null), (1, .iload_n 2, 1, 2, 0, 0, .null), (2, .iconst 5, 1, 0, 0, 0, .int (nI (5)))] = true := by decide +kernel
theorem dc_X5_mayHave_3 : decode (AM.bytes M_X5_mayHave) 3 = .ok (.invokevirtual 62, 3) := by decide +kernel
theorem dc_X5_mayHave_6 : decode (AM.bytes M_X5_mayHave) 6 = .ok (.ifCond .ne 17, 3) := by decide +kernel
theorem g_X5_mayHave_23_5 : ab_oks M_X5_mayHave [(23, .iconst 0, 1, 0, 0, 0, .int (nI (0))), (24, .istore_n 3, 1, 3, 0, 0, .null), (25, .aload_n 0, 1, 0, 0, 0, .null), (26, .iload_n 2, 1, 2, 0, 0, .null), (27, .iconst 1, 1, 0, 0, 0, .int (nI (1)))] = true := by decide +kernel
theorem dc_X5_mayHave_28 : decode (AM.bytes M_X5_mayHave) 28 = .ok (.invokevirtual 62, 3) := by decide +kernel
theorem g_X5_mayHave_31_3 : ab_oks M_X5_mayHave [(31, .aload_n 0, 1, 0, 0, 0, .null), (32, .iload_n 1, 1, 1, 0, 0, .null), (33, .iconst 0, 1, 0, 0, 0, .int (nI (0)))] = true := by decide +kernel
theorem dc_X5_mayHave_34 : decode (AM.bytes M_X5_mayHave) 34 = .ok (.invokevirtual 72, 3) := by decide +kernel
theorem dc_X5_mayHave_37 : decode (AM.bytes M_X5_mayHave) 37 = .ok (.if_icmp .gt 22, 3) := by decide +kernel
theorem g_X5_mayHave_59_3 : ab_oks M_X5_mayHave [(59, .iconst 0, 1, 0, 0, 0, .int (nI (0))), (60, .istore 4, 2, 4, 0, 0, .null), (62, .iload_n 3, 1, 3, 0, 0, .null)] = true := by decide +kernel
theorem dc_X5_mayHave_63 : decode (AM.bytes M_X5_mayHave) 63 = .ok (.ifCond .eq 21, 3) := by decide +kernel
theorem g_X5_mayHave_84_1 : ab_oks M_X5_mayHave [(84, .iconst 0, 1, 0, 0, 0, .int (nI (0)))] = true := by decide +kernel
theorem dc_X5_mayHave_85 : decode (AM.bytes M_X5_mayHave) 85 = .ok (.ireturn, 1) := by decide +kernel
theorem g_X5_mayHave_40_3 : ab_oks M_X5_mayHave [(40, .aload_n 0, 1, 0, 0, 0, .null), (41, .iload_n 2, 1, 2, 0, 0, .null), (42, .iconst 3, 1, 0, 0, 0, .int (nI (3)))] = true := by decide +kernel
theorem dc_X5_mayHave_43 : decode (AM.bytes M_X5_mayHave) 43 = .ok (.invokevirtual 62, 3) := by decide +kernel
theorem g_X5_mayHave_46_3 : ab_oks M_X5_mayHave [(46, .aload_n 0, 1, 0, 0, 0, .null), (47, .iload_n 1, 1, 1, 0, 0, .null), (48, .iconst 1, 1, 0, 0, 0, .int (nI (1)))] = true := by decide +kernel
theorem dc_X5_mayHave_49 : decode (AM.bytes M_X5_mayHave) 49 = .ok (.invokevirtual 72, 3) := by decide +kernel
theorem dc_X5_mayHave_52 : decode (AM.bytes M_X5_mayHave) 52 = .ok (.if_icmp .gt 7, 3) := by decide +kernel
theorem g_X5_mayHave_55_4 : ab_oks M_X5_mayHave [(55, .iconst 1, 1, 0, 0, 0, .int (nI (1))), (56, .goto 4, 3, 60, 0, 0, .null), (60, .istore 4, 2, 4, 0, 0, .null), (62, .iload_n 3, 1, 3, 0, 0, .null)] = true := by decide +kernel
theorem g_X5_mayHave_9_3 : ab_oks M_X5_mayHave [(9, .aload_n 0, 1, 0, 0, 0, .null), (10, .iload_n 2, 1, 2, 0, 0, .null), (11, .bipush 6, 2, 0, 0, 0, .int (nI (6)))] = true := by decide +kernel
theorem dc_X5_mayHave_13 : decode (AM.bytes M_X5_mayHave) 13 = .ok (.invokevirtual 62, 3) := by decide +kernel
theorem dc_X5_mayHave_16 : decode (AM.bytes M_X5_mayHave) 16 = .ok (.ifCond .ne 7, 3) := by decide +kernel
theorem g_X5_mayHave_19_6 : ab_oks M_X5_mayHave [(19, .iconst 1, 1, 0, 0, 0, .int (nI (1))), (20, .goto 4, 3, 24, 0, 0, .null), (24, .istore_n 3, 1, 3, 0, 0, .null), (25, .aload_n 0, 1, 0, 0, 0, .null), (26, .iload_n 2, 1, 2, 0, 0, .null), (27, .iconst 1, 1, 0, 0, 0, .int (nI (1)))] = true := by decide +kernel
theorem g_X5_mayHave_66_1 : ab_oks M_X5_mayHave [(66, .iload 4, 2, 4, 0, 0, .null)] = true := by decide +kernel
theorem dc_X5_mayHave_68 : decode (AM.bytes M_X5_mayHave) 68 = .ok (.ifCond .eq 16, 3) := by decide +kernel
theorem g_X5_mayHave_71_2 : ab_oks M_X5_mayHave [(71, .aload_n 0, 1, 0, 0, 0, .null), (72, .iload_n 1, 1, 1, 0, 0, .null)] = true := by decide +kernel
theorem dc_X5_mayHave_73 : decode (AM.bytes M_X5_mayHave) 73 = .ok (.invokevirtual 69, 3) := by decide +kernel
theorem g_X5_mayHave_76_1 : ab_oks M_X5_mayHave [(76, .iconst (-1), 1, 0, 0, 0, .int (-1))] = true := by decide +kernel
theorem dc_X5_mayHave_77 : decode (AM.bytes M_X5_mayHave) 77 = .ok (.if_icmp .ne 7, 3) := by decide +kernel
theorem g_X5_mayHave_80_2 : ab_oks M_X5_mayHave [(80, .iconst 1, 1, 0, 0, 0, .int (nI (1))), (81, .goto 4, 3, 85, 0, 0, .null)] = true := by decide +kernel
set_option maxRecDepth 100000 in
set_option maxHeartbeats 4000000 in
theorem s_5mayHave {E : AE} (d : Nat) (c : Nat) (v : Nat) {nv : Nat} {nc : Nat} {nr : Nat} {ne : Nat}  {o0 a0 t0 p0 u0 l0 : List AC} {z sa ro te fr to un ga pi be : Nat → Int32} {bm en sta sv ln th : Int32} {hh : Int64} (hZ : ZI z nv nc nr ne) (hc : c < 4) (hv : v < nv) : CT E M_X5_mayHave (d + 2) [.ref 16384, .int (nI (c)), .int (nI (v))] (hp o0 a0 t0 p0 (mo z sa ro te fr to un ga pi be bm en sta sv ln th hh) u0 l0) (.inl (some (.int (F_5mayHave c v nv z)))) (hp o0 a0 t0 p0 (mo z sa ro te fr to un ga pi be bm en sta sv ln th hh) u0 l0) 0 0 := by
  obtain ⟨⟨hnv, h12⟩, ⟨hnc, h4⟩, ⟨hnr, h3⟩, ⟨hne, h60⟩, hLV⟩ := id hZ
  refine CT.of (L := [some (.ref 16384), some (.int (nI (c))), some (.int (nI (v))), none, none]) rfl rfl ?_
  refine AR.run g_X5_mayHave_0_3 3 [some (.ref 16384), some (.int (nI (c))), some (.int (nI (v))), none, none] [.int (nI (5)), .int (nI (v)), .ref 16384] _ [] rfl trivial ?_
  refine AR.callV1 (16384) [.int (nI (v)), .int (nI (5))] [] lk_5_62 dc_X5_mayHave_3 rfl rfl (s_ofVolume _ v 5 (by omega) (by omega)) (by first | rfl | (simp only [nI_add, pk_mul]; first | done | rfl)) rfl ?_
  refine AR.ne (tgt := 23) dc_X5_mayHave_6 (by decide) (fun c6_1 => ?_) (fun c6_1 => ?_)
  · refine AR.run g_X5_mayHave_23_5 28 [some (.ref 16384), some (.int (nI (c))), some (.int (nI (v))), some (.int (nI (0))), none] [.int (nI (1)), .int (nI (v)), .ref 16384] _ [] rfl trivial ?_
    refine AR.callV1 (16384) [.int (nI (v)), .int (nI (1))] [] lk_5_62 dc_X5_mayHave_28 rfl rfl (s_ofVolume _ v 1 (by omega) (by omega)) (by first | rfl | (simp only [nI_add, pk_mul]; first | done | rfl)) rfl ?_
    refine AR.run g_X5_mayHave_31_3 34 [some (.ref 16384), some (.int (nI (c))), some (.int (nI (v))), some (.int (nI (0))), none] [.int (nI (0)), .int (nI (c)), .ref 16384, .int (z (11 + 7 * v + 1))] _ [] rfl trivial ?_
    refine AR.callV1 (16384) [.int (nI (c)), .int (nI (0))] [.int (z (11 + 7 * v + 1))] lk_5_72 dc_X5_mayHave_34 rfl rfl (s_ofCradle _ c 0 (by omega) (by omega)) (by first | rfl | (simp only [nI_add, pk_mul]; first | done | rfl)) rfl ?_
    refine AR.gt2 (tgt := 59) dc_X5_mayHave_37 (by decide) (fun c37_2 => ?_) (fun c37_2 => ?_)
    · refine AR.run g_X5_mayHave_59_3 63 [some (.ref 16384), some (.int (nI (c))), some (.int (nI (v))), some (.int (nI (0))), some (.int (nI (0)))] [.int (nI (0))] _ [] rfl trivial ?_
      refine AR.eqN (tgt := 84) (a := 0) dc_X5_mayHave_63 (by decide) (by first | rfl | (simp only [nI_add, pk_mul]; first | done | rfl)) (by omega) (fun c63_3 => ?_) (fun c63_3 => absurd c63_3 (by omega))
      refine AR.run g_X5_mayHave_84_1 85 [some (.ref 16384), some (.int (nI (c))), some (.int (nI (v))), some (.int (nI (0))), some (.int (nI (0)))] [.int (nI (0))] _ [] rfl trivial ?_
      have e4_0 : F_5mayHave c v nv z = (nI (0)) := by rw [F_5mayHave, if_neg c6_1, if_pos c37_2]
      exact AR.retZ dc_X5_mayHave_85 rfl (Or.inl rfl) e4_0.symm rfl
    · refine AR.run g_X5_mayHave_40_3 43 [some (.ref 16384), some (.int (nI (c))), some (.int (nI (v))), some (.int (nI (0))), none] [.int (nI (3)), .int (nI (v)), .ref 16384] _ [] rfl trivial ?_
      refine AR.callV1 (16384) [.int (nI (v)), .int (nI (3))] [] lk_5_62 dc_X5_mayHave_43 rfl rfl (s_ofVolume _ v 3 (by omega) (by omega)) (by first | rfl | (simp only [nI_add, pk_mul]; first | done | rfl)) rfl ?_
      refine AR.run g_X5_mayHave_46_3 49 [some (.ref 16384), some (.int (nI (c))), some (.int (nI (v))), some (.int (nI (0))), none] [.int (nI (1)), .int (nI (c)), .ref 16384, .int (z (11 + 7 * v + 3))] _ [] rfl trivial ?_
      refine AR.callV1 (16384) [.int (nI (c)), .int (nI (1))] [.int (z (11 + 7 * v + 3))] lk_5_72 dc_X5_mayHave_49 rfl rfl (s_ofCradle _ c 1 (by omega) (by omega)) (by first | rfl | (simp only [nI_add, pk_mul]; first | done | rfl)) rfl ?_
      refine AR.gt2 (tgt := 59) dc_X5_mayHave_52 (by decide) (fun c52_5 => ?_) (fun c52_5 => ?_)
      · refine AR.run g_X5_mayHave_59_3 63 [some (.ref 16384), some (.int (nI (c))), some (.int (nI (v))), some (.int (nI (0))), some (.int (nI (0)))] [.int (nI (0))] _ [] rfl trivial ?_
        refine AR.eqN (tgt := 84) (a := 0) dc_X5_mayHave_63 (by decide) (by first | rfl | (simp only [nI_add, pk_mul]; first | done | rfl)) (by omega) (fun c63_6 => ?_) (fun c63_6 => absurd c63_6 (by omega))
        refine AR.run g_X5_mayHave_84_1 85 [some (.ref 16384), some (.int (nI (c))), some (.int (nI (v))), some (.int (nI (0))), some (.int (nI (0)))] [.int (nI (0))] _ [] rfl trivial ?_
        have e7_0 : F_5mayHave c v nv z = (nI (0)) := by rw [F_5mayHave, if_neg c6_1, if_neg c37_2, if_pos c52_5]
        exact AR.retZ dc_X5_mayHave_85 rfl (Or.inl rfl) e7_0.symm rfl
      · refine AR.run g_X5_mayHave_55_4 63 [some (.ref 16384), some (.int (nI (c))), some (.int (nI (v))), some (.int (nI (0))), some (.int (nI (1)))] [.int (nI (0))] _ [] rfl trivial ?_
        refine AR.eqN (tgt := 84) (a := 0) dc_X5_mayHave_63 (by decide) (by first | rfl | (simp only [nI_add, pk_mul]; first | done | rfl)) (by omega) (fun c63_8 => ?_) (fun c63_8 => absurd c63_8 (by omega))
        refine AR.run g_X5_mayHave_84_1 85 [some (.ref 16384), some (.int (nI (c))), some (.int (nI (v))), some (.int (nI (0))), some (.int (nI (1)))] [.int (nI (0))] _ [] rfl trivial ?_
        have e9_0 : F_5mayHave c v nv z = (nI (0)) := by rw [F_5mayHave, if_neg c6_1, if_neg c37_2, if_neg c52_5]
        exact AR.retZ dc_X5_mayHave_85 rfl (Or.inl rfl) e9_0.symm rfl
  · refine AR.run g_X5_mayHave_9_3 13 [some (.ref 16384), some (.int (nI (c))), some (.int (nI (v))), none, none] [.int (nI (6)), .int (nI (v)), .ref 16384] _ [] rfl trivial ?_
    refine AR.callV1 (16384) [.int (nI (v)), .int (nI (6))] [] lk_5_62 dc_X5_mayHave_13 rfl rfl (s_ofVolume _ v 6 (by omega) (by omega)) (by first | rfl | (simp only [nI_add, pk_mul]; first | done | rfl)) rfl ?_
    refine AR.ne (tgt := 23) dc_X5_mayHave_16 (by decide) (fun c16_10 => ?_) (fun c16_10 => ?_)
    · refine AR.run g_X5_mayHave_23_5 28 [some (.ref 16384), some (.int (nI (c))), some (.int (nI (v))), some (.int (nI (0))), none] [.int (nI (1)), .int (nI (v)), .ref 16384] _ [] rfl trivial ?_
      refine AR.callV1 (16384) [.int (nI (v)), .int (nI (1))] [] lk_5_62 dc_X5_mayHave_28 rfl rfl (s_ofVolume _ v 1 (by omega) (by omega)) (by first | rfl | (simp only [nI_add, pk_mul]; first | done | rfl)) rfl ?_
      refine AR.run g_X5_mayHave_31_3 34 [some (.ref 16384), some (.int (nI (c))), some (.int (nI (v))), some (.int (nI (0))), none] [.int (nI (0)), .int (nI (c)), .ref 16384, .int (z (11 + 7 * v + 1))] _ [] rfl trivial ?_
      refine AR.callV1 (16384) [.int (nI (c)), .int (nI (0))] [.int (z (11 + 7 * v + 1))] lk_5_72 dc_X5_mayHave_34 rfl rfl (s_ofCradle _ c 0 (by omega) (by omega)) (by first | rfl | (simp only [nI_add, pk_mul]; first | done | rfl)) rfl ?_
      refine AR.gt2 (tgt := 59) dc_X5_mayHave_37 (by decide) (fun c37_11 => ?_) (fun c37_11 => ?_)
      · refine AR.run g_X5_mayHave_59_3 63 [some (.ref 16384), some (.int (nI (c))), some (.int (nI (v))), some (.int (nI (0))), some (.int (nI (0)))] [.int (nI (0))] _ [] rfl trivial ?_
        refine AR.eqN (tgt := 84) (a := 0) dc_X5_mayHave_63 (by decide) (by first | rfl | (simp only [nI_add, pk_mul]; first | done | rfl)) (by omega) (fun c63_12 => ?_) (fun c63_12 => absurd c63_12 (by omega))
        refine AR.run g_X5_mayHave_84_1 85 [some (.ref 16384), some (.int (nI (c))), some (.int (nI (v))), some (.int (nI (0))), some (.int (nI (0)))] [.int (nI (0))] _ [] rfl trivial ?_
        have e13_0 : F_5mayHave c v nv z = (nI (0)) := by rw [F_5mayHave, if_pos c6_1, if_neg c16_10, if_pos c37_11]
        exact AR.retZ dc_X5_mayHave_85 rfl (Or.inl rfl) e13_0.symm rfl
      · refine AR.run g_X5_mayHave_40_3 43 [some (.ref 16384), some (.int (nI (c))), some (.int (nI (v))), some (.int (nI (0))), none] [.int (nI (3)), .int (nI (v)), .ref 16384] _ [] rfl trivial ?_
        refine AR.callV1 (16384) [.int (nI (v)), .int (nI (3))] [] lk_5_62 dc_X5_mayHave_43 rfl rfl (s_ofVolume _ v 3 (by omega) (by omega)) (by first | rfl | (simp only [nI_add, pk_mul]; first | done | rfl)) rfl ?_
        refine AR.run g_X5_mayHave_46_3 49 [some (.ref 16384), some (.int (nI (c))), some (.int (nI (v))), some (.int (nI (0))), none] [.int (nI (1)), .int (nI (c)), .ref 16384, .int (z (11 + 7 * v + 3))] _ [] rfl trivial ?_
        refine AR.callV1 (16384) [.int (nI (c)), .int (nI (1))] [.int (z (11 + 7 * v + 3))] lk_5_72 dc_X5_mayHave_49 rfl rfl (s_ofCradle _ c 1 (by omega) (by omega)) (by first | rfl | (simp only [nI_add, pk_mul]; first | done | rfl)) rfl ?_
        refine AR.gt2 (tgt := 59) dc_X5_mayHave_52 (by decide) (fun c52_14 => ?_) (fun c52_14 => ?_)
        · refine AR.run g_X5_mayHave_59_3 63 [some (.ref 16384), some (.int (nI (c))), some (.int (nI (v))), some (.int (nI (0))), some (.int (nI (0)))] [.int (nI (0))] _ [] rfl trivial ?_
          refine AR.eqN (tgt := 84) (a := 0) dc_X5_mayHave_63 (by decide) (by first | rfl | (simp only [nI_add, pk_mul]; first | done | rfl)) (by omega) (fun c63_15 => ?_) (fun c63_15 => absurd c63_15 (by omega))
          refine AR.run g_X5_mayHave_84_1 85 [some (.ref 16384), some (.int (nI (c))), some (.int (nI (v))), some (.int (nI (0))), some (.int (nI (0)))] [.int (nI (0))] _ [] rfl trivial ?_
          have e16_0 : F_5mayHave c v nv z = (nI (0)) := by rw [F_5mayHave, if_pos c6_1, if_neg c16_10, if_neg c37_11, if_pos c52_14]
          exact AR.retZ dc_X5_mayHave_85 rfl (Or.inl rfl) e16_0.symm rfl
        · refine AR.run g_X5_mayHave_55_4 63 [some (.ref 16384), some (.int (nI (c))), some (.int (nI (v))), some (.int (nI (0))), some (.int (nI (1)))] [.int (nI (0))] _ [] rfl trivial ?_
          refine AR.eqN (tgt := 84) (a := 0) dc_X5_mayHave_63 (by decide) (by first | rfl | (simp only [nI_add, pk_mul]; first | done | rfl)) (by omega) (fun c63_17 => ?_) (fun c63_17 => absurd c63_17 (by omega))
          refine AR.run g_X5_mayHave_84_1 85 [some (.ref 16384), some (.int (nI (c))), some (.int (nI (v))), some (.int (nI (0))), some (.int (nI (1)))] [.int (nI (0))] _ [] rfl trivial ?_
          have e18_0 : F_5mayHave c v nv z = (nI (0)) := by rw [F_5mayHave, if_pos c6_1, if_neg c16_10, if_neg c37_11, if_neg c52_14]
          exact AR.retZ dc_X5_mayHave_85 rfl (Or.inl rfl) e18_0.symm rfl
    · refine AR.run g_X5_mayHave_19_6 28 [some (.ref 16384), some (.int (nI (c))), some (.int (nI (v))), some (.int (nI (1))), none] [.int (nI (1)), .int (nI (v)), .ref 16384] _ [] rfl trivial ?_
      refine AR.callV1 (16384) [.int (nI (v)), .int (nI (1))] [] lk_5_62 dc_X5_mayHave_28 rfl rfl (s_ofVolume _ v 1 (by omega) (by omega)) (by first | rfl | (simp only [nI_add, pk_mul]; first | done | rfl)) rfl ?_
      refine AR.run g_X5_mayHave_31_3 34 [some (.ref 16384), some (.int (nI (c))), some (.int (nI (v))), some (.int (nI (1))), none] [.int (nI (0)), .int (nI (c)), .ref 16384, .int (z (11 + 7 * v + 1))] _ [] rfl trivial ?_
      refine AR.callV1 (16384) [.int (nI (c)), .int (nI (0))] [.int (z (11 + 7 * v + 1))] lk_5_72 dc_X5_mayHave_34 rfl rfl (s_ofCradle _ c 0 (by omega) (by omega)) (by first | rfl | (simp only [nI_add, pk_mul]; first | done | rfl)) rfl ?_
      refine AR.gt2 (tgt := 59) dc_X5_mayHave_37 (by decide) (fun c37_19 => ?_) (fun c37_19 => ?_)
      · refine AR.run g_X5_mayHave_59_3 63 [some (.ref 16384), some (.int (nI (c))), some (.int (nI (v))), some (.int (nI (1))), some (.int (nI (0)))] [.int (nI (1))] _ [] rfl trivial ?_
        refine AR.eqN (tgt := 84) (a := 1) dc_X5_mayHave_63 (by decide) (by first | rfl | (simp only [nI_add, pk_mul]; first | done | rfl)) (by omega) (fun c63_20 => absurd c63_20 (by omega)) (fun c63_20 => ?_)
        refine AR.run g_X5_mayHave_66_1 68 [some (.ref 16384), some (.int (nI (c))), some (.int (nI (v))), some (.int (nI (1))), some (.int (nI (0)))] [.int (nI (0))] _ [] rfl trivial ?_
        refine AR.eqN (tgt := 84) (a := 0) dc_X5_mayHave_68 (by decide) (by first | rfl | (simp only [nI_add, pk_mul]; first | done | rfl)) (by omega) (fun c68_21 => ?_) (fun c68_21 => absurd c68_21 (by omega))
        refine AR.run g_X5_mayHave_84_1 85 [some (.ref 16384), some (.int (nI (c))), some (.int (nI (v))), some (.int (nI (1))), some (.int (nI (0)))] [.int (nI (0))] _ [] rfl trivial ?_
        have e22_0 : F_5mayHave c v nv z = (nI (0)) := by rw [F_5mayHave, if_pos c6_1, if_pos c16_10, if_pos c37_19]
        exact AR.retZ dc_X5_mayHave_85 rfl (Or.inl rfl) e22_0.symm rfl
      · refine AR.run g_X5_mayHave_40_3 43 [some (.ref 16384), some (.int (nI (c))), some (.int (nI (v))), some (.int (nI (1))), none] [.int (nI (3)), .int (nI (v)), .ref 16384] _ [] rfl trivial ?_
        refine AR.callV1 (16384) [.int (nI (v)), .int (nI (3))] [] lk_5_62 dc_X5_mayHave_43 rfl rfl (s_ofVolume _ v 3 (by omega) (by omega)) (by first | rfl | (simp only [nI_add, pk_mul]; first | done | rfl)) rfl ?_
        refine AR.run g_X5_mayHave_46_3 49 [some (.ref 16384), some (.int (nI (c))), some (.int (nI (v))), some (.int (nI (1))), none] [.int (nI (1)), .int (nI (c)), .ref 16384, .int (z (11 + 7 * v + 3))] _ [] rfl trivial ?_
        refine AR.callV1 (16384) [.int (nI (c)), .int (nI (1))] [.int (z (11 + 7 * v + 3))] lk_5_72 dc_X5_mayHave_49 rfl rfl (s_ofCradle _ c 1 (by omega) (by omega)) (by first | rfl | (simp only [nI_add, pk_mul]; first | done | rfl)) rfl ?_
        refine AR.gt2 (tgt := 59) dc_X5_mayHave_52 (by decide) (fun c52_23 => ?_) (fun c52_23 => ?_)
        · refine AR.run g_X5_mayHave_59_3 63 [some (.ref 16384), some (.int (nI (c))), some (.int (nI (v))), some (.int (nI (1))), some (.int (nI (0)))] [.int (nI (1))] _ [] rfl trivial ?_
          refine AR.eqN (tgt := 84) (a := 1) dc_X5_mayHave_63 (by decide) (by first | rfl | (simp only [nI_add, pk_mul]; first | done | rfl)) (by omega) (fun c63_24 => absurd c63_24 (by omega)) (fun c63_24 => ?_)
          refine AR.run g_X5_mayHave_66_1 68 [some (.ref 16384), some (.int (nI (c))), some (.int (nI (v))), some (.int (nI (1))), some (.int (nI (0)))] [.int (nI (0))] _ [] rfl trivial ?_
          refine AR.eqN (tgt := 84) (a := 0) dc_X5_mayHave_68 (by decide) (by first | rfl | (simp only [nI_add, pk_mul]; first | done | rfl)) (by omega) (fun c68_25 => ?_) (fun c68_25 => absurd c68_25 (by omega))
          refine AR.run g_X5_mayHave_84_1 85 [some (.ref 16384), some (.int (nI (c))), some (.int (nI (v))), some (.int (nI (1))), some (.int (nI (0)))] [.int (nI (0))] _ [] rfl trivial ?_
          have e26_0 : F_5mayHave c v nv z = (nI (0)) := by rw [F_5mayHave, if_pos c6_1, if_pos c16_10, if_neg c37_19, if_pos c52_23]
          exact AR.retZ dc_X5_mayHave_85 rfl (Or.inl rfl) e26_0.symm rfl
        · refine AR.run g_X5_mayHave_55_4 63 [some (.ref 16384), some (.int (nI (c))), some (.int (nI (v))), some (.int (nI (1))), some (.int (nI (1)))] [.int (nI (1))] _ [] rfl trivial ?_
          refine AR.eqN (tgt := 84) (a := 1) dc_X5_mayHave_63 (by decide) (by first | rfl | (simp only [nI_add, pk_mul]; first | done | rfl)) (by omega) (fun c63_27 => absurd c63_27 (by omega)) (fun c63_27 => ?_)
          refine AR.run g_X5_mayHave_66_1 68 [some (.ref 16384), some (.int (nI (c))), some (.int (nI (v))), some (.int (nI (1))), some (.int (nI (1)))] [.int (nI (1))] _ [] rfl trivial ?_
          refine AR.eqN (tgt := 84) (a := 1) dc_X5_mayHave_68 (by decide) (by first | rfl | (simp only [nI_add, pk_mul]; first | done | rfl)) (by omega) (fun c68_28 => absurd c68_28 (by omega)) (fun c68_28 => ?_)
          refine AR.run g_X5_mayHave_71_2 73 [some (.ref 16384), some (.int (nI (c))), some (.int (nI (v))), some (.int (nI (1))), some (.int (nI (1)))] [.int (nI (c)), .ref 16384] _ [] rfl trivial ?_
          refine AR.callV1 (16384) [.int (nI (c))] [] lk_5_69 dc_X5_mayHave_73 rfl rfl (s_volumeOn _ (nI (c)) hZ.1.1 hZ.1.2) (by first | rfl | (simp only [nI_add, pk_mul]; first | done | rfl)) rfl ?_
          refine AR.run g_X5_mayHave_76_1 77 [some (.ref 16384), some (.int (nI (c))), some (.int (nI (v))), some (.int (nI (1))), some (.int (nI (1)))] [.int (-1), .int (oI (vo z (nI (c)) nv))] _ [] rfl trivial ?_
          refine AR.ne2 (tgt := 84) dc_X5_mayHave_77 (by decide) (fun c77_29 => ?_) (fun c77_29 => ?_)
          · refine AR.run g_X5_mayHave_84_1 85 [some (.ref 16384), some (.int (nI (c))), some (.int (nI (v))), some (.int (nI (1))), some (.int (nI (1)))] [.int (nI (0))] _ [] rfl trivial ?_
            have e30_0 : F_5mayHave c v nv z = (nI (0)) := by rw [F_5mayHave, if_pos c6_1, if_pos c16_10, if_neg c37_19, if_neg c52_23, if_neg c77_29]
            exact AR.retZ dc_X5_mayHave_85 rfl (Or.inl rfl) e30_0.symm rfl
          · refine AR.run g_X5_mayHave_80_2 85 [some (.ref 16384), some (.int (nI (c))), some (.int (nI (v))), some (.int (nI (1))), some (.int (nI (1)))] [.int (nI (1))] _ [] rfl trivial ?_
            have e31_0 : F_5mayHave c v nv z = (nI (1)) := by rw [F_5mayHave, if_pos c6_1, if_pos c16_10, if_neg c37_19, if_neg c52_23, if_pos c77_29]
            exact AR.retZ dc_X5_mayHave_85 rfl (Or.inr rfl) e31_0.symm rfl
def W_5scansOf_32 (c : Nat) (z : Nat → Int32) : Nat → Nat → (Int32) → (Int32) → (Int32) → (Int32) → (Int32) → (Int32)
  | 0, j32, x32_4, x32_5, x32_6, x32_7, x32_8 => x32_8
  | f32 + 1, j32, x32_4, x32_5, x32_6, x32_7, x32_8 => if x32_6 ≤ 0 then x32_8 else if (z (95 + 4 * c + 1)) < x32_4 then x32_8 else if (x32_7 + (nI (1))) < ((z 7) + ((z 8) * x32_4)) then W_5scansOf_32 c z f32 (j32 + 1) x32_4 x32_5 x32_6 (x32_7 + (nI (1))) x32_8 else if (x32_5 + (nI (1))) < (z 9) then if (x32_5 + (nI (1))) < (z 9) then W_5scansOf_32 c z f32 (j32 + 1) (x32_4 + (nI (0))) (x32_5 + (nI (1))) (x32_6 + (-1)) (nI (0)) (x32_8 + (nI (1))) else W_5scansOf_32 c z f32 (j32 + 1) (x32_4 + (nI (0))) (nI (0)) (x32_6 + (-1)) (nI (0)) (x32_8 + (nI (1))) else if (x32_5 + (nI (1))) < (z 9) then W_5scansOf_32 c z f32 (j32 + 1) (x32_4 + (nI (1))) (x32_5 + (nI (1))) (x32_6 + (-1)) (nI (0)) (x32_8 + (nI (1))) else W_5scansOf_32 c z f32 (j32 + 1) (x32_4 + (nI (1))) (nI (0)) (x32_6 + (-1)) (nI (0)) (x32_8 + (nI (1)))
theorem g_X5_scansOf_0_3 : ab_oks M_X5_scansOf [(0, .aload_n 0, 1, 0, 0, 0, .null), (1, .iload_n 2, 1, 2, 0, 0, .null), (2, .iconst 3, 1, 0, 0, 0, .int (nI (3)))] = true := by decide +kernel
theorem dc_X5_scansOf_3 : decode (AM.bytes M_X5_scansOf) 3 = .ok (.invokevirtual 62, 3) := by decide +kernel
theorem g_X5_scansOf_6_4 : ab_oks M_X5_scansOf [(6, .istore 4, 2, 4, 0, 0, .null), (8, .aload_n 0, 1, 0, 0, 0, .null), (9, .iload_n 2, 1, 2, 0, 0, .null), (10, .iconst 4, 1, 0, 0, 0, .int (nI (4)))] = true := by decide +kernel
theorem dc_X5_scansOf_11 : decode (AM.bytes M_X5_scansOf) 11 = .ok (.invokevirtual 62, 3) := by decide +kernel
theorem g_X5_scansOf_14_3 : ab_oks M_X5_scansOf [(14, .istore 5, 2, 5, 0, 0, .null), (16, .aload_n 0, 1, 0, 0, 0, .null), (17, .iload_n 2, 1, 2, 0, 0, .null)] = true := by decide +kernel
theorem lk_5_203 : ab_lkV "LeafCradlesModel" 203 M_X5_toScan 1 [1293, 1295, 82, 97, 1296] = true := by decide +kernel
theorem dc_X5_scansOf_18 : decode (AM.bytes M_X5_scansOf) 18 = .ok (.invokevirtual 203, 3) := by decide +kernel
theorem g_X5_scansOf_21_7 : ab_oks M_X5_scansOf [(21, .istore 6, 2, 6, 0, 0, .null), (23, .iconst 0, 1, 0, 0, 0, .int (nI (0))), (24, .istore 7, 2, 7, 0, 0, .null), (26, .iconst 0, 1, 0, 0, 0, .int (nI (0))), (27, .istore 8, 2, 8, 0, 0, .null), (29, .iconst 0, 1, 0, 0, 0, .int (nI (0))), (30, .istore 9, 2, 9, 0, 0, .null)] = true := by decide +kernel
theorem g_X5_scansOf_32_2 : ab_oks M_X5_scansOf [(32, .iload 9, 2, 9, 0, 0, .null), (34, .iload_n 3, 1, 3, 0, 0, .null)] = true := by decide +kernel
theorem dc_X5_scansOf_35 : decode (AM.bytes M_X5_scansOf) 35 = .ok (.if_icmp .ge 105, 3) := by decide +kernel
theorem g_X5_scansOf_140_1 : ab_oks M_X5_scansOf [(140, .iload 8, 2, 8, 0, 0, .null)] = true := by decide +kernel
theorem dc_X5_scansOf_142 : decode (AM.bytes M_X5_scansOf) 142 = .ok (.ireturn, 1) := by decide +kernel
theorem g_X5_scansOf_38_1 : ab_oks M_X5_scansOf [(38, .iload 6, 2, 6, 0, 0, .null)] = true := by decide +kernel
theorem dc_X5_scansOf_40 : decode (AM.bytes M_X5_scansOf) 40 = .ok (.ifCond .le 100, 3) := by decide +kernel
theorem g_X5_scansOf_43_4 : ab_oks M_X5_scansOf [(43, .iload 4, 2, 4, 0, 0, .null), (45, .aload_n 0, 1, 0, 0, 0, .null), (46, .iload_n 1, 1, 1, 0, 0, .null), (47, .iconst 1, 1, 0, 0, 0, .int (nI (1)))] = true := by decide +kernel
theorem dc_X5_scansOf_48 : decode (AM.bytes M_X5_scansOf) 48 = .ok (.invokevirtual 72, 3) := by decide +kernel
theorem dc_X5_scansOf_51 : decode (AM.bytes M_X5_scansOf) 51 = .ok (.if_icmp .gt 89, 3) := by decide +kernel
theorem g_X5_scansOf_54_5 : ab_oks M_X5_scansOf [(54, .iinc 7 1, 3, 7, 0, 0, .int (nI (1))), (57, .iload 7, 2, 7, 0, 0, .null), (59, .aload_n 0, 1, 0, 0, 0, .null), (60, .getfield 7, 3, 5, 0, 930, .null), (63, .bipush 7, 2, 0, 0, 0, .int (nI (7)))] = true := by decide +kernel
theorem ok_X5_scansOf_65 : ab_ok M_X5_scansOf (65, .iaload, 1, 0, 0, 0, .null) = true := by decide +kernel
theorem g_X5_scansOf_66_3 : ab_oks M_X5_scansOf [(66, .aload_n 0, 1, 0, 0, 0, .null), (67, .getfield 7, 3, 5, 0, 930, .null), (70, .bipush 8, 2, 0, 0, 0, .int (nI (8)))] = true := by decide +kernel
theorem ok_X5_scansOf_72 : ab_ok M_X5_scansOf (72, .iaload, 1, 0, 0, 0, .null) = true := by decide +kernel
theorem g_X5_scansOf_73_3 : ab_oks M_X5_scansOf [(73, .iload 4, 2, 4, 0, 0, .null), (75, .imul, 1, 0, 0, 0, .null), (76, .iadd, 1, 0, 0, 0, .null)] = true := by decide +kernel
theorem dc_X5_scansOf_77 : decode (AM.bytes M_X5_scansOf) 77 = .ok (.if_icmp .lt 57, 3) := by decide +kernel
theorem g_X5_scansOf_134_2 : ab_oks M_X5_scansOf [(134, .iinc 9 1, 3, 9, 0, 0, .int (nI (1))), (137, .goto (-105), 3, 32, 0, 0, .null)] = true := by decide +kernel
theorem g_X5_scansOf_80_10 : ab_oks M_X5_scansOf [(80, .iconst 0, 1, 0, 0, 0, .int (nI (0))), (81, .istore 7, 2, 7, 0, 0, .null), (83, .iinc 6 (-1), 3, 6, 0, 0, .int (-1)), (86, .iinc 8 1, 3, 8, 0, 0, .int (nI (1))), (89, .iinc 5 1, 3, 5, 0, 0, .int (nI (1))), (92, .iload 4, 2, 4, 0, 0, .null), (94, .iload 5, 2, 5, 0, 0, .null), (96, .aload_n 0, 1, 0, 0, 0, .null), (97, .getfield 7, 3, 5, 0, 930, .null), (100, .bipush 9, 2, 0, 0, 0, .int (nI (9)))] = true := by decide +kernel
theorem ok_X5_scansOf_102 : ab_ok M_X5_scansOf (102, .iaload, 1, 0, 0, 0, .null) = true := by decide +kernel
theorem dc_X5_scansOf_103 : decode (AM.bytes M_X5_scansOf) 103 = .ok (.if_icmp .lt 7, 3) := by decide +kernel
theorem g_X5_scansOf_110_7 : ab_oks M_X5_scansOf [(110, .iconst 0, 1, 0, 0, 0, .int (nI (0))), (111, .iadd, 1, 0, 0, 0, .null), (112, .istore 4, 2, 4, 0, 0, .null), (114, .iload 5, 2, 5, 0, 0, .null), (116, .aload_n 0, 1, 0, 0, 0, .null), (117, .getfield 7, 3, 5, 0, 930, .null), (120, .bipush 9, 2, 0, 0, 0, .int (nI (9)))] = true := by decide +kernel
theorem ok_X5_scansOf_122 : ab_ok M_X5_scansOf (122, .iaload, 1, 0, 0, 0, .null) = true := by decide +kernel
theorem dc_X5_scansOf_123 : decode (AM.bytes M_X5_scansOf) 123 = .ok (.if_icmp .lt 7, 3) := by decide +kernel
theorem g_X5_scansOf_130_4 : ab_oks M_X5_scansOf [(130, .iload 5, 2, 5, 0, 0, .null), (132, .istore 5, 2, 5, 0, 0, .null), (134, .iinc 9 1, 3, 9, 0, 0, .int (nI (1))), (137, .goto (-105), 3, 32, 0, 0, .null)] = true := by decide +kernel
theorem g_X5_scansOf_126_5 : ab_oks M_X5_scansOf [(126, .iconst 0, 1, 0, 0, 0, .int (nI (0))), (127, .goto 5, 3, 132, 0, 0, .null), (132, .istore 5, 2, 5, 0, 0, .null), (134, .iinc 9 1, 3, 9, 0, 0, .int (nI (1))), (137, .goto (-105), 3, 32, 0, 0, .null)] = true := by decide +kernel
theorem g_X5_scansOf_106_8 : ab_oks M_X5_scansOf [(106, .iconst 1, 1, 0, 0, 0, .int (nI (1))), (107, .goto 4, 3, 111, 0, 0, .null), (111, .iadd, 1, 0, 0, 0, .null), (112, .istore 4, 2, 4, 0, 0, .null), (114, .iload 5, 2, 5, 0, 0, .null), (116, .aload_n 0, 1, 0, 0, 0, .null), (117, .getfield 7, 3, 5, 0, 930, .null), (120, .bipush 9, 2, 0, 0, 0, .int (nI (9)))] = true := by decide +kernel
set_option maxRecDepth 100000 in
set_option maxHeartbeats 4000000 in
theorem s_5scansOf {E : AE} (d : Nat) (c : Nat) (v : Nat) (m : Nat) {nv : Nat} {nc : Nat} {nr : Nat} {ne : Nat}  {o0 a0 t0 p0 u0 l0 : List AC} {z sa ro te fr to un ga pi be : Nat → Int32} {bm en sta sv ln th : Int32} {hh : Int64} (hZ : ZI z nv nc nr ne) (hc : c < 4) (hv : v < nv) (hm : m ≤ 500) : CT E M_X5_scansOf (d + 3) [.ref 16384, .int (nI (c)), .int (nI (v)), .int (nI (m))] (hp o0 a0 t0 p0 (mo z sa ro te fr to un ga pi be bm en sta sv ln th hh) u0 l0) (.inl (some (.int (W_5scansOf_32 c z m 0 (z (11 + 7 * v + 3)) (z (11 + 7 * v + 4)) ((nI ((lv z v))) - (L_5leavesWith_5 v (nI (1)) z (lv z v))) (nI (0)) (nI (0)))))) (hp o0 a0 t0 p0 (mo z sa ro te fr to un ga pi be bm en sta sv ln th hh) u0 l0) 0 0 := by
  obtain ⟨⟨hnv, h12⟩, ⟨hnc, h4⟩, ⟨hnr, h3⟩, ⟨hne, h60⟩, hLV⟩ := id hZ
  refine CT.of (L := [some (.ref 16384), some (.int (nI (c))), some (.int (nI (v))), some (.int (nI (m))), none, none, none, none, none, none]) rfl rfl ?_
  refine AR.run g_X5_scansOf_0_3 3 [some (.ref 16384), some (.int (nI (c))), some (.int (nI (v))), some (.int (nI (m))), none, none, none, none, none, none] [.int (nI (3)), .int (nI (v)), .ref 16384] _ [] rfl trivial ?_
  refine AR.callV1 (16384) [.int (nI (v)), .int (nI (3))] [] lk_5_62 dc_X5_scansOf_3 rfl rfl (s_ofVolume _ v 3 (by omega) (by omega)) (by first | rfl | (simp only [nI_add, pk_mul]; first | done | rfl)) rfl ?_
  refine AR.run g_X5_scansOf_6_4 11 [some (.ref 16384), some (.int (nI (c))), some (.int (nI (v))), some (.int (nI (m))), some (.int (z (11 + 7 * v + 3))), none, none, none, none, none] [.int (nI (4)), .int (nI (v)), .ref 16384] _ [] rfl trivial ?_
  refine AR.callV1 (16384) [.int (nI (v)), .int (nI (4))] [] lk_5_62 dc_X5_scansOf_11 rfl rfl (s_ofVolume _ v 4 (by omega) (by omega)) (by first | rfl | (simp only [nI_add, pk_mul]; first | done | rfl)) rfl ?_
  refine AR.run g_X5_scansOf_14_3 18 [some (.ref 16384), some (.int (nI (c))), some (.int (nI (v))), some (.int (nI (m))), some (.int (z (11 + 7 * v + 3))), some (.int (z (11 + 7 * v + 4))), none, none, none, none] [.int (nI (v)), .ref 16384] _ [] rfl trivial ?_
  refine AR.callV1 (16384) [.int (nI (v))] [] lk_5_203 dc_X5_scansOf_18 rfl rfl (s_5toScan _ v (by omega) (by first | assumption | exact (hLV v (by omega)).1) (by first | assumption | exact (hLV v (by omega)).2)) (by first | rfl | (simp only [nI_add, pk_mul]; first | done | rfl)) rfl ?_
  refine AR.run g_X5_scansOf_21_7 32 [some (.ref 16384), some (.int (nI (c))), some (.int (nI (v))), some (.int (nI (m))), some (.int (z (11 + 7 * v + 3))), some (.int (z (11 + 7 * v + 4))), some (.int ((nI ((lv z v))) - (L_5leavesWith_5 v (nI (1)) z (lv z v)))), some (.int (nI (0))), some (.int (nI (0))), some (.int (nI (0)))] [] _ [] rfl trivial ?_
  have hW : ∀ (f32 j32 : Nat) (x32_4 : Int32) (x32_5 : Int32) (x32_6 : Int32) (x32_7 : Int32) (x32_8 : Int32), j32 + f32 = m → AR E M_X5_scansOf (d + 3) 32 [some (.ref 16384), some (.int (nI (c))), some (.int (nI (v))), some (.int (nI (m))), some (.int (x32_4)), some (.int (x32_5)), some (.int (x32_6)), some (.int (x32_7)), some (.int (x32_8)), some (.int (nI (j32)))] [] (hp o0 a0 t0 p0 (mo z sa ro te fr to un ga pi be bm en sta sv ln th hh) u0 l0) (.inl (some (.int (W_5scansOf_32 c z f32 j32 x32_4 x32_5 x32_6 x32_7 x32_8)))) (hp o0 a0 t0 p0 (mo z sa ro te fr to un ga pi be bm en sta sv ln th hh) u0 l0) 0 0 := by
    intro f32
    induction f32 with
    | zero => 
      intro j32 x32_4 x32_5 x32_6 x32_7 x32_8 hj32
      refine AR.run g_X5_scansOf_32_2 35 [some (.ref 16384), some (.int (nI (c))), some (.int (nI (v))), some (.int (nI (m))), some (.int (x32_4)), some (.int (x32_5)), some (.int (x32_6)), some (.int (x32_7)), some (.int (x32_8)), some (.int (nI (j32)))] [.int (nI (m)), .int (nI (j32))] _ [] rfl trivial ?_
      refine AR.ge2N (tgt := 140) (a := j32) (b := m) dc_X5_scansOf_35 (by decide) (by first | rfl | (simp only [nI_add, pk_mul]; first | done | rfl)) (by first | rfl | (simp only [nI_add, pk_mul]; first | done | rfl)) (by omega) (by omega) (fun c35_1 => ?_) (fun c35_1 => absurd c35_1 (by omega))
      refine AR.run g_X5_scansOf_140_1 142 [some (.ref 16384), some (.int (nI (c))), some (.int (nI (v))), some (.int (nI (m))), some (.int (x32_4)), some (.int (x32_5)), some (.int (x32_6)), some (.int (x32_7)), some (.int (x32_8)), some (.int (nI (j32)))] [.int (x32_8)] _ [] rfl trivial ?_
      have e2 : W_5scansOf_32 c z 0 j32 x32_4 x32_5 x32_6 x32_7 x32_8 = x32_8 := by rw [W_5scansOf_32]
      rw [e2]
      exact AR.retI dc_X5_scansOf_142 rfl rfl rfl
    | succ f32 ih32 => 
      intro j32 x32_4 x32_5 x32_6 x32_7 x32_8 hj32
      refine AR.run g_X5_scansOf_32_2 35 [some (.ref 16384), some (.int (nI (c))), some (.int (nI (v))), some (.int (nI (m))), some (.int (x32_4)), some (.int (x32_5)), some (.int (x32_6)), some (.int (x32_7)), some (.int (x32_8)), some (.int (nI (j32)))] [.int (nI (m)), .int (nI (j32))] _ [] rfl trivial ?_
      refine AR.ge2N (tgt := 140) (a := j32) (b := m) dc_X5_scansOf_35 (by decide) (by first | rfl | (simp only [nI_add, pk_mul]; first | done | rfl)) (by first | rfl | (simp only [nI_add, pk_mul]; first | done | rfl)) (by omega) (by omega) (fun c35_3 => absurd c35_3 (by omega)) (fun c35_3 => ?_)
      refine AR.run g_X5_scansOf_38_1 40 [some (.ref 16384), some (.int (nI (c))), some (.int (nI (v))), some (.int (nI (m))), some (.int (x32_4)), some (.int (x32_5)), some (.int (x32_6)), some (.int (x32_7)), some (.int (x32_8)), some (.int (nI (j32)))] [.int (x32_6)] _ [] rfl trivial ?_
      refine AR.le (tgt := 140) dc_X5_scansOf_40 (by decide) (fun c40_4 => ?_) (fun c40_4 => ?_)
      · refine AR.run g_X5_scansOf_140_1 142 [some (.ref 16384), some (.int (nI (c))), some (.int (nI (v))), some (.int (nI (m))), some (.int (x32_4)), some (.int (x32_5)), some (.int (x32_6)), some (.int (x32_7)), some (.int (x32_8)), some (.int (nI (j32)))] [.int (x32_8)] _ [] rfl trivial ?_
        have e5 : W_5scansOf_32 c z (f32 + 1) j32 x32_4 x32_5 x32_6 x32_7 x32_8 = x32_8 := by rw [W_5scansOf_32, if_pos c40_4]
        rw [e5]
        exact AR.retI dc_X5_scansOf_142 rfl rfl rfl
      · refine AR.run g_X5_scansOf_43_4 48 [some (.ref 16384), some (.int (nI (c))), some (.int (nI (v))), some (.int (nI (m))), some (.int (x32_4)), some (.int (x32_5)), some (.int (x32_6)), some (.int (x32_7)), some (.int (x32_8)), some (.int (nI (j32)))] [.int (nI (1)), .int (nI (c)), .ref 16384, .int (x32_4)] _ [] rfl trivial ?_
        refine AR.callV1 (16384) [.int (nI (c)), .int (nI (1))] [.int (x32_4)] lk_5_72 dc_X5_scansOf_48 rfl rfl (s_ofCradle _ c 1 (by omega) (by omega)) (by first | rfl | (simp only [nI_add, pk_mul]; first | done | rfl)) rfl ?_
        refine AR.gt2 (tgt := 140) dc_X5_scansOf_51 (by decide) (fun c51_6 => ?_) (fun c51_6 => ?_)
        · refine AR.run g_X5_scansOf_140_1 142 [some (.ref 16384), some (.int (nI (c))), some (.int (nI (v))), some (.int (nI (m))), some (.int (x32_4)), some (.int (x32_5)), some (.int (x32_6)), some (.int (x32_7)), some (.int (x32_8)), some (.int (nI (j32)))] [.int (x32_8)] _ [] rfl trivial ?_
          have e7 : W_5scansOf_32 c z (f32 + 1) j32 x32_4 x32_5 x32_6 x32_7 x32_8 = x32_8 := by rw [W_5scansOf_32, if_neg c40_4, if_pos c51_6]
          rw [e7]
          exact AR.retI dc_X5_scansOf_142 rfl rfl rfl
        · refine AR.run g_X5_scansOf_54_5 65 [some (.ref 16384), some (.int (nI (c))), some (.int (nI (v))), some (.int (nI (m))), some (.int (x32_4)), some (.int (x32_5)), some (.int (x32_6)), some (.int (x32_7 + (nI (1)))), some (.int (x32_8)), some (.int (nI (j32)))] [.int (nI (7)), .ref 16385, .int (x32_7 + (nI (1)))] _ [] rfl trivial ?_
          refine AR.ald (n := 0) (e := 7) ok_X5_scansOf_65 (by first | rfl | (simp only [nI_add, pk_mul]; first | done | rfl)) rfl (by omega) (by first | decide | omega) ?_
          refine AR.run g_X5_scansOf_66_3 72 [some (.ref 16384), some (.int (nI (c))), some (.int (nI (v))), some (.int (nI (m))), some (.int (x32_4)), some (.int (x32_5)), some (.int (x32_6)), some (.int (x32_7 + (nI (1)))), some (.int (x32_8)), some (.int (nI (j32)))] [.int (nI (8)), .ref 16385, .int (z 7), .int (x32_7 + (nI (1)))] _ [] rfl trivial ?_
          refine AR.ald (n := 0) (e := 8) ok_X5_scansOf_72 (by first | rfl | (simp only [nI_add, pk_mul]; first | done | rfl)) rfl (by omega) (by first | decide | omega) ?_
          refine AR.run g_X5_scansOf_73_3 77 [some (.ref 16384), some (.int (nI (c))), some (.int (nI (v))), some (.int (nI (m))), some (.int (x32_4)), some (.int (x32_5)), some (.int (x32_6)), some (.int (x32_7 + (nI (1)))), some (.int (x32_8)), some (.int (nI (j32)))] [.int ((z 7) + ((z 8) * x32_4)), .int (x32_7 + (nI (1)))] _ [] rfl trivial ?_
          refine AR.lt2 (tgt := 134) dc_X5_scansOf_77 (by decide) (fun c77_8 => ?_) (fun c77_8 => ?_)
          · refine AR.run g_X5_scansOf_134_2 32 [some (.ref 16384), some (.int (nI (c))), some (.int (nI (v))), some (.int (nI (m))), some (.int (x32_4)), some (.int (x32_5)), some (.int (x32_6)), some (.int (x32_7 + (nI (1)))), some (.int (x32_8)), some (.int ((nI (j32)) + (nI (1))))] [] _ [] rfl trivial ?_
            have e9 : W_5scansOf_32 c z (f32 + 1) j32 x32_4 x32_5 x32_6 x32_7 x32_8 = W_5scansOf_32 c z f32 (j32 + 1) x32_4 x32_5 x32_6 (x32_7 + (nI (1))) x32_8 := by rw [W_5scansOf_32, if_neg c40_4, if_neg c51_6, if_pos c77_8]
            rw [e9]
            exact AR.cast (L' := [some (.ref 16384), some (.int (nI (c))), some (.int (nI (v))), some (.int (nI (m))), some (.int (x32_4)), some (.int (x32_5)), some (.int (x32_6)), some (.int (x32_7 + (nI (1)))), some (.int (x32_8)), some (.int (nI (j32 + 1)))]) (by first | rfl | rw [nI_add]) rfl rfl (ih32 (j32 + 1) x32_4 x32_5 x32_6 (x32_7 + (nI (1))) x32_8 (by omega) )
          · refine AR.run g_X5_scansOf_80_10 102 [some (.ref 16384), some (.int (nI (c))), some (.int (nI (v))), some (.int (nI (m))), some (.int (x32_4)), some (.int (x32_5 + (nI (1)))), some (.int (x32_6 + (-1))), some (.int (nI (0))), some (.int (x32_8 + (nI (1)))), some (.int (nI (j32)))] [.int (nI (9)), .ref 16385, .int (x32_5 + (nI (1))), .int (x32_4)] _ [] rfl trivial ?_
            refine AR.ald (n := 0) (e := 9) ok_X5_scansOf_102 (by first | rfl | (simp only [nI_add, pk_mul]; first | done | rfl)) rfl (by omega) (by first | decide | omega) ?_
            refine AR.lt2 (tgt := 110) dc_X5_scansOf_103 (by decide) (fun c103_10 => ?_) (fun c103_10 => ?_)
            · refine AR.run g_X5_scansOf_110_7 122 [some (.ref 16384), some (.int (nI (c))), some (.int (nI (v))), some (.int (nI (m))), some (.int (x32_4 + (nI (0)))), some (.int (x32_5 + (nI (1)))), some (.int (x32_6 + (-1))), some (.int (nI (0))), some (.int (x32_8 + (nI (1)))), some (.int (nI (j32)))] [.int (nI (9)), .ref 16385, .int (x32_5 + (nI (1)))] _ [] rfl trivial ?_
              refine AR.ald (n := 0) (e := 9) ok_X5_scansOf_122 (by first | rfl | (simp only [nI_add, pk_mul]; first | done | rfl)) rfl (by omega) (by first | decide | omega) ?_
              refine AR.lt2 (tgt := 130) dc_X5_scansOf_123 (by decide) (fun c123_11 => ?_) (fun c123_11 => ?_)
              · refine AR.run g_X5_scansOf_130_4 32 [some (.ref 16384), some (.int (nI (c))), some (.int (nI (v))), some (.int (nI (m))), some (.int (x32_4 + (nI (0)))), some (.int (x32_5 + (nI (1)))), some (.int (x32_6 + (-1))), some (.int (nI (0))), some (.int (x32_8 + (nI (1)))), some (.int ((nI (j32)) + (nI (1))))] [] _ [] rfl trivial ?_
                have e12 : W_5scansOf_32 c z (f32 + 1) j32 x32_4 x32_5 x32_6 x32_7 x32_8 = W_5scansOf_32 c z f32 (j32 + 1) (x32_4 + (nI (0))) (x32_5 + (nI (1))) (x32_6 + (-1)) (nI (0)) (x32_8 + (nI (1))) := by rw [W_5scansOf_32, if_neg c40_4, if_neg c51_6, if_neg c77_8, if_pos c103_10, if_pos c123_11]
                rw [e12]
                exact AR.cast (L' := [some (.ref 16384), some (.int (nI (c))), some (.int (nI (v))), some (.int (nI (m))), some (.int (x32_4 + (nI (0)))), some (.int (x32_5 + (nI (1)))), some (.int (x32_6 + (-1))), some (.int (nI (0))), some (.int (x32_8 + (nI (1)))), some (.int (nI (j32 + 1)))]) (by first | rfl | rw [nI_add]) rfl rfl (ih32 (j32 + 1) (x32_4 + (nI (0))) (x32_5 + (nI (1))) (x32_6 + (-1)) (nI (0)) (x32_8 + (nI (1))) (by omega) )
              · refine AR.run g_X5_scansOf_126_5 32 [some (.ref 16384), some (.int (nI (c))), some (.int (nI (v))), some (.int (nI (m))), some (.int (x32_4 + (nI (0)))), some (.int (nI (0))), some (.int (x32_6 + (-1))), some (.int (nI (0))), some (.int (x32_8 + (nI (1)))), some (.int ((nI (j32)) + (nI (1))))] [] _ [] rfl trivial ?_
                have e13 : W_5scansOf_32 c z (f32 + 1) j32 x32_4 x32_5 x32_6 x32_7 x32_8 = W_5scansOf_32 c z f32 (j32 + 1) (x32_4 + (nI (0))) (nI (0)) (x32_6 + (-1)) (nI (0)) (x32_8 + (nI (1))) := by rw [W_5scansOf_32, if_neg c40_4, if_neg c51_6, if_neg c77_8, if_pos c103_10, if_neg c123_11]
                rw [e13]
                exact AR.cast (L' := [some (.ref 16384), some (.int (nI (c))), some (.int (nI (v))), some (.int (nI (m))), some (.int (x32_4 + (nI (0)))), some (.int (nI (0))), some (.int (x32_6 + (-1))), some (.int (nI (0))), some (.int (x32_8 + (nI (1)))), some (.int (nI (j32 + 1)))]) (by first | rfl | rw [nI_add]) rfl rfl (ih32 (j32 + 1) (x32_4 + (nI (0))) (nI (0)) (x32_6 + (-1)) (nI (0)) (x32_8 + (nI (1))) (by omega) )
            · refine AR.run g_X5_scansOf_106_8 122 [some (.ref 16384), some (.int (nI (c))), some (.int (nI (v))), some (.int (nI (m))), some (.int (x32_4 + (nI (1)))), some (.int (x32_5 + (nI (1)))), some (.int (x32_6 + (-1))), some (.int (nI (0))), some (.int (x32_8 + (nI (1)))), some (.int (nI (j32)))] [.int (nI (9)), .ref 16385, .int (x32_5 + (nI (1)))] _ [] rfl trivial ?_
              refine AR.ald (n := 0) (e := 9) ok_X5_scansOf_122 (by first | rfl | (simp only [nI_add, pk_mul]; first | done | rfl)) rfl (by omega) (by first | decide | omega) ?_
              refine AR.lt2 (tgt := 130) dc_X5_scansOf_123 (by decide) (fun c123_14 => ?_) (fun c123_14 => ?_)
              · refine AR.run g_X5_scansOf_130_4 32 [some (.ref 16384), some (.int (nI (c))), some (.int (nI (v))), some (.int (nI (m))), some (.int (x32_4 + (nI (1)))), some (.int (x32_5 + (nI (1)))), some (.int (x32_6 + (-1))), some (.int (nI (0))), some (.int (x32_8 + (nI (1)))), some (.int ((nI (j32)) + (nI (1))))] [] _ [] rfl trivial ?_
                have e15 : W_5scansOf_32 c z (f32 + 1) j32 x32_4 x32_5 x32_6 x32_7 x32_8 = W_5scansOf_32 c z f32 (j32 + 1) (x32_4 + (nI (1))) (x32_5 + (nI (1))) (x32_6 + (-1)) (nI (0)) (x32_8 + (nI (1))) := by rw [W_5scansOf_32, if_neg c40_4, if_neg c51_6, if_neg c77_8, if_neg c103_10, if_pos c123_14]
                rw [e15]
                exact AR.cast (L' := [some (.ref 16384), some (.int (nI (c))), some (.int (nI (v))), some (.int (nI (m))), some (.int (x32_4 + (nI (1)))), some (.int (x32_5 + (nI (1)))), some (.int (x32_6 + (-1))), some (.int (nI (0))), some (.int (x32_8 + (nI (1)))), some (.int (nI (j32 + 1)))]) (by first | rfl | rw [nI_add]) rfl rfl (ih32 (j32 + 1) (x32_4 + (nI (1))) (x32_5 + (nI (1))) (x32_6 + (-1)) (nI (0)) (x32_8 + (nI (1))) (by omega) )
              · refine AR.run g_X5_scansOf_126_5 32 [some (.ref 16384), some (.int (nI (c))), some (.int (nI (v))), some (.int (nI (m))), some (.int (x32_4 + (nI (1)))), some (.int (nI (0))), some (.int (x32_6 + (-1))), some (.int (nI (0))), some (.int (x32_8 + (nI (1)))), some (.int ((nI (j32)) + (nI (1))))] [] _ [] rfl trivial ?_
                have e16 : W_5scansOf_32 c z (f32 + 1) j32 x32_4 x32_5 x32_6 x32_7 x32_8 = W_5scansOf_32 c z f32 (j32 + 1) (x32_4 + (nI (1))) (nI (0)) (x32_6 + (-1)) (nI (0)) (x32_8 + (nI (1))) := by rw [W_5scansOf_32, if_neg c40_4, if_neg c51_6, if_neg c77_8, if_neg c103_10, if_neg c123_14]
                rw [e16]
                exact AR.cast (L' := [some (.ref 16384), some (.int (nI (c))), some (.int (nI (v))), some (.int (nI (m))), some (.int (x32_4 + (nI (1)))), some (.int (nI (0))), some (.int (x32_6 + (-1))), some (.int (nI (0))), some (.int (x32_8 + (nI (1)))), some (.int (nI (j32 + 1)))]) (by first | rfl | rw [nI_add]) rfl rfl (ih32 (j32 + 1) (x32_4 + (nI (1))) (nI (0)) (x32_6 + (-1)) (nI (0)) (x32_8 + (nI (1))) (by omega) )
  exact AR.end' (by first | rfl | (simp only [id])) (by first | rfl | (simp only [id])) (AR.cast rfl rfl rfl (hW m 0 (z (11 + 7 * v + 3)) (z (11 + 7 * v + 4)) ((nI ((lv z v))) - (L_5leavesWith_5 v (nI (1)) z (lv z v))) (nI (0)) (nI (0)) (by omega)))
def B_5layGains_9 (m : Nat) (nv : Nat) (nc : Nat) (z : Nat → Int32) (j2 : Nat) (j9 : Nat) (y9_ga : Nat → Int32) : (Nat → Int32) := if nc ≤ j2 then (upd y9_ga ((12 * j2) + j9) (-1)) else if nv ≤ j9 then (upd y9_ga ((12 * j2) + j9) (-1)) else if (F_5mayHave j2 j9 nv z) = 0 then (upd y9_ga ((12 * j2) + j9) (-1)) else (upd y9_ga ((12 * j2) + j9) (W_5scansOf_32 j2 z (m - 1) 0 (z (11 + 7 * j9 + 3)) (z (11 + 7 * j9 + 4)) ((nI ((lv z j9))) - (L_5leavesWith_5 j9 (nI (1)) z (lv z j9))) (nI (0)) (nI (0))))
def L_5layGains_9 (m : Nat) (nv : Nat) (nc : Nat) (z : Nat → Int32) (j2 : Nat) (y2_ga : Nat → Int32) : Nat → (Nat → Int32)
  | 0 => y2_ga
  | j + 1 => B_5layGains_9 m nv nc z j2 j (L_5layGains_9 m nv nc z j2 y2_ga  j)
def B_5layGains_2 (m : Nat) (nv : Nat) (nc : Nat) (z : Nat → Int32) (j2 : Nat) (y2_ga : Nat → Int32) : (Nat → Int32) := (L_5layGains_9 m nv nc z j2 y2_ga 12)
def L_5layGains_2 (m : Nat) (nv : Nat) (nc : Nat) (z : Nat → Int32) (ga : Nat → Int32) : Nat → (Nat → Int32)
  | 0 => ga
  | j + 1 => B_5layGains_2 m nv nc z j (L_5layGains_2 m nv nc z ga  j)
def F_5layGains_ga (m : Nat) (nv : Nat) (nc : Nat) (z : Nat → Int32) (ga : Nat → Int32) : Nat → Int32 := (L_5layGains_2 m nv nc z ga 4)
theorem g_X5_layGains_0_2 : ab_oks M_X5_layGains [(0, .iconst 0, 1, 0, 0, 0, .int (nI (0))), (1, .istore_n 2, 1, 2, 0, 0, .null)] = true := by decide +kernel
theorem g_X5_layGains_2_2 : ab_oks M_X5_layGains [(2, .iload_n 2, 1, 2, 0, 0, .null), (3, .iconst 4, 1, 0, 0, 0, .int (nI (4)))] = true := by decide +kernel
theorem dc_X5_layGains_4 : decode (AM.bytes M_X5_layGains) 4 = .ok (.if_icmp .ge 88, 3) := by decide +kernel
theorem g_X5_layGains_7_2 : ab_oks M_X5_layGains [(7, .iconst 0, 1, 0, 0, 0, .int (nI (0))), (8, .istore_n 3, 1, 3, 0, 0, .null)] = true := by decide +kernel
theorem g_X5_layGains_9_2 : ab_oks M_X5_layGains [(9, .iload_n 3, 1, 3, 0, 0, .null), (10, .bipush 12, 2, 0, 0, 0, .int (nI (12)))] = true := by decide +kernel
theorem dc_X5_layGains_12 : decode (AM.bytes M_X5_layGains) 12 = .ok (.if_icmp .ge 74, 3) := by decide +kernel
theorem g_X5_layGains_15_4 : ab_oks M_X5_layGains [(15, .iload_n 2, 1, 2, 0, 0, .null), (16, .aload_n 0, 1, 0, 0, 0, .null), (17, .getfield 7, 3, 5, 0, 930, .null), (20, .iconst 1, 1, 0, 0, 0, .int (nI (1)))] = true := by decide +kernel
theorem ok_X5_layGains_21 : ab_ok M_X5_layGains (21, .iaload, 1, 0, 0, 0, .null) = true := by decide +kernel
theorem dc_X5_layGains_22 : decode (AM.bytes M_X5_layGains) 22 = .ok (.if_icmp .ge 26, 3) := by decide +kernel
theorem g_X5_layGains_48_10 : ab_oks M_X5_layGains [(48, .iconst 0, 1, 0, 0, 0, .int (nI (0))), (49, .istore 4, 2, 4, 0, 0, .null), (51, .aload_n 0, 1, 0, 0, 0, .null), (52, .getfield 31, 3, 5, 7, 937, .null), (55, .bipush 12, 2, 0, 0, 0, .int (nI (12))), (57, .iload_n 2, 1, 2, 0, 0, .null), (58, .imul, 1, 0, 0, 0, .null), (59, .iload_n 3, 1, 3, 0, 0, .null), (60, .iadd, 1, 0, 0, 0, .null), (61, .iload 4, 2, 4, 0, 0, .null)] = true := by decide +kernel
theorem dc_X5_layGains_63 : decode (AM.bytes M_X5_layGains) 63 = .ok (.ifCond .eq 15, 3) := by decide +kernel
theorem g_X5_layGains_78_1 : ab_oks M_X5_layGains [(78, .iconst (-1), 1, 0, 0, 0, .int (-1))] = true := by decide +kernel
theorem ok_X5_layGains_79 : ab_ok M_X5_layGains (79, .iastore, 1, 0, 0, 0, .null) = true := by decide +kernel
theorem g_X5_layGains_80_2 : ab_oks M_X5_layGains [(80, .iinc 3 1, 3, 3, 0, 0, .int (nI (1))), (83, .goto (-74), 3, 9, 0, 0, .null)] = true := by decide +kernel
theorem g_X5_layGains_25_4 : ab_oks M_X5_layGains [(25, .iload_n 3, 1, 3, 0, 0, .null), (26, .aload_n 0, 1, 0, 0, 0, .null), (27, .getfield 7, 3, 5, 0, 930, .null), (30, .iconst 0, 1, 0, 0, 0, .int (nI (0)))] = true := by decide +kernel
theorem ok_X5_layGains_31 : ab_ok M_X5_layGains (31, .iaload, 1, 0, 0, 0, .null) = true := by decide +kernel
theorem dc_X5_layGains_32 : decode (AM.bytes M_X5_layGains) 32 = .ok (.if_icmp .ge 16, 3) := by decide +kernel
theorem g_X5_layGains_35_3 : ab_oks M_X5_layGains [(35, .aload_n 0, 1, 0, 0, 0, .null), (36, .iload_n 2, 1, 2, 0, 0, .null), (37, .iload_n 3, 1, 3, 0, 0, .null)] = true := by decide +kernel
theorem lk_5_206 : ab_lkV "LeafCradlesModel" 206 M_X5_mayHave 2 [1285, 1287, 80, 97, 1288] = true := by decide +kernel
theorem dc_X5_layGains_38 : decode (AM.bytes M_X5_layGains) 38 = .ok (.invokevirtual 206, 3) := by decide +kernel
theorem dc_X5_layGains_41 : decode (AM.bytes M_X5_layGains) 41 = .ok (.ifCond .eq 7, 3) := by decide +kernel
theorem g_X5_layGains_44_11 : ab_oks M_X5_layGains [(44, .iconst 1, 1, 0, 0, 0, .int (nI (1))), (45, .goto 4, 3, 49, 0, 0, .null), (49, .istore 4, 2, 4, 0, 0, .null), (51, .aload_n 0, 1, 0, 0, 0, .null), (52, .getfield 31, 3, 5, 7, 937, .null), (55, .bipush 12, 2, 0, 0, 0, .int (nI (12))), (57, .iload_n 2, 1, 2, 0, 0, .null), (58, .imul, 1, 0, 0, 0, .null), (59, .iload_n 3, 1, 3, 0, 0, .null), (60, .iadd, 1, 0, 0, 0, .null), (61, .iload 4, 2, 4, 0, 0, .null)] = true := by decide +kernel
theorem g_X5_layGains_66_6 : ab_oks M_X5_layGains [(66, .aload_n 0, 1, 0, 0, 0, .null), (67, .iload_n 2, 1, 2, 0, 0, .null), (68, .iload_n 3, 1, 3, 0, 0, .null), (69, .iload_n 1, 1, 1, 0, 0, .null), (70, .iconst 1, 1, 0, 0, 0, .int (nI (1))), (71, .isub, 1, 0, 0, 0, .null)] = true := by decide +kernel
theorem lk_5_209 : ab_lkV "LeafCradlesModel" 209 M_X5_scansOf 3 [1289, 1291, 81, 97, 1292] = true := by decide +kernel
theorem dc_X5_layGains_72 : decode (AM.bytes M_X5_layGains) 72 = .ok (.invokevirtual 209, 3) := by decide +kernel
theorem g_X5_layGains_75_1 : ab_oks M_X5_layGains [(75, .goto 4, 3, 79, 0, 0, .null)] = true := by decide +kernel
theorem g_X5_layGains_86_2 : ab_oks M_X5_layGains [(86, .iinc 2 1, 3, 2, 0, 0, .int (nI (1))), (89, .goto (-87), 3, 2, 0, 0, .null)] = true := by decide +kernel
theorem dc_X5_layGains_92 : decode (AM.bytes M_X5_layGains) 92 = .ok (.return_, 1) := by decide +kernel
set_option maxRecDepth 100000 in
set_option maxHeartbeats 4000000 in
theorem s_5layGains {E : AE} (d : Nat) (m : Nat) {nv : Nat} {nc : Nat} {nr : Nat} {ne : Nat}  {o0 a0 t0 p0 u0 l0 : List AC} {z sa ro te fr to un ga pi be : Nat → Int32} {bm en sta sv ln th : Int32} {hh : Int64} (hZ : ZI z nv nc nr ne) (hm : m ≤ 500) (hm1 : 1 ≤ m) : CT E M_X5_layGains (d + 4) [.ref 16384, .int (nI (m))] (hp o0 a0 t0 p0 (mo z sa ro te fr to un ga pi be bm en sta sv ln th hh) u0 l0) (.inl none) (hp o0 a0 t0 p0 (mo z sa ro te fr to un (F_5layGains_ga m nv nc z ga) pi be bm en sta sv ln th hh) u0 l0) 0 0 := by
  obtain ⟨⟨hnv, h12⟩, ⟨hnc, h4⟩, ⟨hnr, h3⟩, ⟨hne, h60⟩, hLV⟩ := id hZ
  refine CT.of (L := [some (.ref 16384), some (.int (nI (m))), none, none, none]) rfl rfl ?_
  refine AR.run g_X5_layGains_0_2 2 [some (.ref 16384), some (.int (nI (m))), some (.int (nI (0))), none, none] [] _ [] rfl trivial ?_
  refine AR.cast (L' := [some (.ref 16384), some (.int (nI (m))), some (.int (nI (0))), none, none]) (by first | rfl | (rw [L_5layGains_2])) rfl (by first | rfl | (rw [L_5layGains_2])) (AR.loopN 4 (fun j2 => [some (.ref 16384), some (.int (nI (m))), some (.int (nI (j2))), none, none]) (fun j2 => (hp o0 a0 t0 p0 (mo z sa ro te fr to un (L_5layGains_2 m nv nc z ga j2) pi be bm en sta sv ln th hh) u0 l0)) (fun j2 => True) (fun j2 hj2 hI2 ih2 => ?_) (fun hI2 => ?_) 0 (by omega) (by first | trivial | omega))
  · refine AR.run g_X5_layGains_2_2 4 [some (.ref 16384), some (.int (nI (m))), some (.int (nI (j2))), none, none] [.int (nI (4)), .int (nI (j2))] _ [] rfl trivial ?_
    refine AR.ge2N (tgt := 92) (a := j2) (b := 4) dc_X5_layGains_4 (by decide) (by first | rfl | (simp only [nI_add, pk_mul]; first | done | rfl)) (by first | rfl | (simp only [nI_add, pk_mul]; first | done | rfl)) (by omega) (by omega) (fun c4_1 => absurd c4_1 (by omega)) (fun c4_1 => ?_)
    refine AR.run g_X5_layGains_7_2 9 [some (.ref 16384), some (.int (nI (m))), some (.int (nI (j2))), some (.int (nI (0))), none] [] _ [] rfl trivial ?_
    refine AR.cast (L' := [some (.ref 16384), some (.int (nI (m))), some (.int (nI (j2))), some (.int (nI (0))), none]) (by first | rfl | (rw [L_5layGains_9])) rfl (by first | rfl | (rw [L_5layGains_9])) (AR.loopN 12 (fun j9 => [some (.ref 16384), some (.int (nI (m))), some (.int (nI (j2))), some (.int (nI (j9))), none]) (fun j9 => (hp o0 a0 t0 p0 (mo z sa ro te fr to un (L_5layGains_9 m nv nc z j2 (L_5layGains_2 m nv nc z ga j2) j9) pi be bm en sta sv ln th hh) u0 l0)) (fun j9 => True) (fun j9 hj9 hI9 ih9 => ?_) (fun hI9 => ?_) 0 (by omega) (by first | trivial | omega))
    · refine AR.run g_X5_layGains_9_2 12 [some (.ref 16384), some (.int (nI (m))), some (.int (nI (j2))), some (.int (nI (j9))), none] [.int (nI (12)), .int (nI (j9))] _ [] rfl trivial ?_
      refine AR.ge2N (tgt := 86) (a := j9) (b := 12) dc_X5_layGains_12 (by decide) (by first | rfl | (simp only [nI_add, pk_mul]; first | done | rfl)) (by first | rfl | (simp only [nI_add, pk_mul]; first | done | rfl)) (by omega) (by omega) (fun c12_2 => absurd c12_2 (by omega)) (fun c12_2 => ?_)
      refine AR.run g_X5_layGains_15_4 21 [some (.ref 16384), some (.int (nI (m))), some (.int (nI (j2))), some (.int (nI (j9))), none] [.int (nI (1)), .ref 16385, .int (nI (j2))] _ [] rfl trivial ?_
      refine AR.ald (n := 0) (e := 1) ok_X5_layGains_21 (by first | rfl | (simp only [nI_add, pk_mul]; first | done | rfl)) rfl (by omega) (by first | decide | omega) ?_
      refine AR.top hZ.2.1.1 ?_
      refine AR.ge2N (tgt := 48) (a := j2) (b := nc) dc_X5_layGains_22 (by decide) (by first | rfl | (simp only [nI_add, pk_mul]; first | done | rfl)) (by first | rfl | (simp only [nI_add, pk_mul]; first | done | rfl)) (by omega) (by omega) (fun c22_3 => ?_) (fun c22_3 => ?_)
      · refine AR.run g_X5_layGains_48_10 63 [some (.ref 16384), some (.int (nI (m))), some (.int (nI (j2))), some (.int (nI (j9))), some (.int (nI (0)))] [.int (nI (0)), .int (((nI (12)) * (nI (j2))) + (nI (j9))), .ref 16392] _ [] rfl trivial ?_
        refine AR.eqN (tgt := 78) (a := 0) dc_X5_layGains_63 (by decide) (by first | rfl | (simp only [nI_add, pk_mul]; first | done | rfl)) (by omega) (fun c63_4 => ?_) (fun c63_4 => absurd c63_4 (by omega))
        refine AR.run g_X5_layGains_78_1 79 [some (.ref 16384), some (.int (nI (m))), some (.int (nI (j2))), some (.int (nI (j9))), some (.int (nI (0)))] [.int (-1), .int (((nI (12)) * (nI (j2))) + (nI (j9))), .ref 16392] _ [] rfl trivial ?_
        refine AR.ast (n := 0) (e := ((12 * j2) + j9)) (h1 := (hp o0 a0 t0 p0 (mo z sa ro te fr to un (upd (L_5layGains_9 m nv nc z j2 (L_5layGains_2 m nv nc z ga j2) j9) ((12 * j2) + j9) (-1)) pi be bm en sta sv ln th hh) u0 l0)) ok_X5_layGains_79 (by first | rfl | (simp only [nI_add, pk_mul]; first | done | rfl)) rfl rfl (by omega) (by decide) rfl ?_
        refine AR.run g_X5_layGains_80_2 9 [some (.ref 16384), some (.int (nI (m))), some (.int (nI (j2))), some (.int ((nI (j9)) + (nI (1)))), some (.int (nI (0)))] [] _ [] rfl trivial ?_
        refine AR.drop (L' := [some (.ref 16384), some (.int (nI (m))), some (.int (nI (j2))), some (.int ((nI (j9)) + (nI (1)))), none]) ⟨rfl, rfl, rfl, rfl, trivial⟩ ?_
        have e5 : L_5layGains_9 m nv nc z j2 (L_5layGains_2 m nv nc z ga j2) (j9 + 1) = (upd (L_5layGains_9 m nv nc z j2 (L_5layGains_2 m nv nc z ga j2) j9) ((12 * j2) + j9) (-1)) := by rw [L_5layGains_9, B_5layGains_9, if_pos (show nc ≤ j2 from by omega)]
        exact AR.cast (L' := [some (.ref 16384), some (.int (nI (m))), some (.int (nI (j2))), some (.int (nI (j9 + 1))), none]) (by first | rfl | rw [nI_add]) rfl (by rw [e5]) (ih9 (by first | trivial | omega))
      · refine AR.run g_X5_layGains_25_4 31 [some (.ref 16384), some (.int (nI (m))), some (.int (nI (j2))), some (.int (nI (j9))), none] [.int (nI (0)), .ref 16385, .int (nI (j9))] _ [] rfl trivial ?_
        refine AR.ald (n := 0) (e := 0) ok_X5_layGains_31 (by first | rfl | (simp only [nI_add, pk_mul]; first | done | rfl)) rfl (by omega) (by first | decide | omega) ?_
        refine AR.top hZ.1.1 ?_
        refine AR.ge2N (tgt := 48) (a := j9) (b := nv) dc_X5_layGains_32 (by decide) (by first | rfl | (simp only [nI_add, pk_mul]; first | done | rfl)) (by first | rfl | (simp only [nI_add, pk_mul]; first | done | rfl)) (by omega) (by omega) (fun c32_6 => ?_) (fun c32_6 => ?_)
        · refine AR.run g_X5_layGains_48_10 63 [some (.ref 16384), some (.int (nI (m))), some (.int (nI (j2))), some (.int (nI (j9))), some (.int (nI (0)))] [.int (nI (0)), .int (((nI (12)) * (nI (j2))) + (nI (j9))), .ref 16392] _ [] rfl trivial ?_
          refine AR.eqN (tgt := 78) (a := 0) dc_X5_layGains_63 (by decide) (by first | rfl | (simp only [nI_add, pk_mul]; first | done | rfl)) (by omega) (fun c63_7 => ?_) (fun c63_7 => absurd c63_7 (by omega))
          refine AR.run g_X5_layGains_78_1 79 [some (.ref 16384), some (.int (nI (m))), some (.int (nI (j2))), some (.int (nI (j9))), some (.int (nI (0)))] [.int (-1), .int (((nI (12)) * (nI (j2))) + (nI (j9))), .ref 16392] _ [] rfl trivial ?_
          refine AR.ast (n := 0) (e := ((12 * j2) + j9)) (h1 := (hp o0 a0 t0 p0 (mo z sa ro te fr to un (upd (L_5layGains_9 m nv nc z j2 (L_5layGains_2 m nv nc z ga j2) j9) ((12 * j2) + j9) (-1)) pi be bm en sta sv ln th hh) u0 l0)) ok_X5_layGains_79 (by first | rfl | (simp only [nI_add, pk_mul]; first | done | rfl)) rfl rfl (by omega) (by decide) rfl ?_
          refine AR.run g_X5_layGains_80_2 9 [some (.ref 16384), some (.int (nI (m))), some (.int (nI (j2))), some (.int ((nI (j9)) + (nI (1)))), some (.int (nI (0)))] [] _ [] rfl trivial ?_
          refine AR.drop (L' := [some (.ref 16384), some (.int (nI (m))), some (.int (nI (j2))), some (.int ((nI (j9)) + (nI (1)))), none]) ⟨rfl, rfl, rfl, rfl, trivial⟩ ?_
          have e8 : L_5layGains_9 m nv nc z j2 (L_5layGains_2 m nv nc z ga j2) (j9 + 1) = (upd (L_5layGains_9 m nv nc z j2 (L_5layGains_2 m nv nc z ga j2) j9) ((12 * j2) + j9) (-1)) := by rw [L_5layGains_9, B_5layGains_9, if_neg (show ¬ (nc ≤ j2) from by omega), if_pos (show nv ≤ j9 from by omega)]
          exact AR.cast (L' := [some (.ref 16384), some (.int (nI (m))), some (.int (nI (j2))), some (.int (nI (j9 + 1))), none]) (by first | rfl | rw [nI_add]) rfl (by rw [e8]) (ih9 (by first | trivial | omega))
        · refine AR.run g_X5_layGains_35_3 38 [some (.ref 16384), some (.int (nI (m))), some (.int (nI (j2))), some (.int (nI (j9))), none] [.int (nI (j9)), .int (nI (j2)), .ref 16384] _ [] rfl trivial ?_
          refine AR.callV1 (16384) [.int (nI (j2)), .int (nI (j9))] [] lk_5_206 dc_X5_layGains_38 rfl rfl (s_5mayHave _ j2 j9 (by assumption) (by omega) (by omega)) (by first | rfl | (simp only [nI_add, pk_mul]; first | done | rfl)) rfl ?_
          refine AR.eq (tgt := 48) dc_X5_layGains_41 (by decide) (fun c41_9 => ?_) (fun c41_9 => ?_)
          · refine AR.run g_X5_layGains_48_10 63 [some (.ref 16384), some (.int (nI (m))), some (.int (nI (j2))), some (.int (nI (j9))), some (.int (nI (0)))] [.int (nI (0)), .int (((nI (12)) * (nI (j2))) + (nI (j9))), .ref 16392] _ [] rfl trivial ?_
            refine AR.eqN (tgt := 78) (a := 0) dc_X5_layGains_63 (by decide) (by first | rfl | (simp only [nI_add, pk_mul]; first | done | rfl)) (by omega) (fun c63_10 => ?_) (fun c63_10 => absurd c63_10 (by omega))
            refine AR.run g_X5_layGains_78_1 79 [some (.ref 16384), some (.int (nI (m))), some (.int (nI (j2))), some (.int (nI (j9))), some (.int (nI (0)))] [.int (-1), .int (((nI (12)) * (nI (j2))) + (nI (j9))), .ref 16392] _ [] rfl trivial ?_
            refine AR.ast (n := 0) (e := ((12 * j2) + j9)) (h1 := (hp o0 a0 t0 p0 (mo z sa ro te fr to un (upd (L_5layGains_9 m nv nc z j2 (L_5layGains_2 m nv nc z ga j2) j9) ((12 * j2) + j9) (-1)) pi be bm en sta sv ln th hh) u0 l0)) ok_X5_layGains_79 (by first | rfl | (simp only [nI_add, pk_mul]; first | done | rfl)) rfl rfl (by omega) (by decide) rfl ?_
            refine AR.run g_X5_layGains_80_2 9 [some (.ref 16384), some (.int (nI (m))), some (.int (nI (j2))), some (.int ((nI (j9)) + (nI (1)))), some (.int (nI (0)))] [] _ [] rfl trivial ?_
            refine AR.drop (L' := [some (.ref 16384), some (.int (nI (m))), some (.int (nI (j2))), some (.int ((nI (j9)) + (nI (1)))), none]) ⟨rfl, rfl, rfl, rfl, trivial⟩ ?_
            have e11 : L_5layGains_9 m nv nc z j2 (L_5layGains_2 m nv nc z ga j2) (j9 + 1) = (upd (L_5layGains_9 m nv nc z j2 (L_5layGains_2 m nv nc z ga j2) j9) ((12 * j2) + j9) (-1)) := by rw [L_5layGains_9, B_5layGains_9, if_neg (show ¬ (nc ≤ j2) from by omega), if_neg (show ¬ (nv ≤ j9) from by omega), if_pos c41_9]
            exact AR.cast (L' := [some (.ref 16384), some (.int (nI (m))), some (.int (nI (j2))), some (.int (nI (j9 + 1))), none]) (by first | rfl | rw [nI_add]) rfl (by rw [e11]) (ih9 (by first | trivial | omega))
          · refine AR.run g_X5_layGains_44_11 63 [some (.ref 16384), some (.int (nI (m))), some (.int (nI (j2))), some (.int (nI (j9))), some (.int (nI (1)))] [.int (nI (1)), .int (((nI (12)) * (nI (j2))) + (nI (j9))), .ref 16392] _ [] rfl trivial ?_
            refine AR.eqN (tgt := 78) (a := 1) dc_X5_layGains_63 (by decide) (by first | rfl | (simp only [nI_add, pk_mul]; first | done | rfl)) (by omega) (fun c63_12 => absurd c63_12 (by omega)) (fun c63_12 => ?_)
            refine AR.run g_X5_layGains_66_6 72 [some (.ref 16384), some (.int (nI (m))), some (.int (nI (j2))), some (.int (nI (j9))), some (.int (nI (1)))] [.int ((nI (m)) - (nI (1))), .int (nI (j9)), .int (nI (j2)), .ref 16384, .int (((nI (12)) * (nI (j2))) + (nI (j9))), .ref 16392] _ [] rfl trivial ?_
            refine AR.cast (L' := [some (.ref 16384), some (.int (nI (m))), some (.int (nI (j2))), some (.int (nI (j9))), some (.int (nI (1)))]) (st' := [.int (nI ((m - 1))), .int (nI (j9)), .int (nI (j2)), .ref 16384, .int (((nI (12)) * (nI (j2))) + (nI (j9))), .ref 16392]) rfl (by rw [pk_sub (by omega)]) rfl ?_
            refine AR.callV1 (16384) [.int (nI (j2)), .int (nI (j9)), .int (nI ((m - 1)))] [.int (nI (((12 * j2) + j9))), .ref 16392] lk_5_209 dc_X5_layGains_72 rfl rfl (s_5scansOf _ j2 j9 (m - 1) (by assumption) (by omega) (by omega) (by omega)) (by first | rfl | (simp only [nI_add, pk_mul]; first | done | rfl)) rfl ?_
            refine AR.run g_X5_layGains_75_1 79 [some (.ref 16384), some (.int (nI (m))), some (.int (nI (j2))), some (.int (nI (j9))), some (.int (nI (1)))] [.int (W_5scansOf_32 j2 z (m - 1) 0 (z (11 + 7 * j9 + 3)) (z (11 + 7 * j9 + 4)) ((nI ((lv z j9))) - (L_5leavesWith_5 j9 (nI (1)) z (lv z j9))) (nI (0)) (nI (0))), .int (nI (((12 * j2) + j9))), .ref 16392] _ [] rfl trivial ?_
            refine AR.ast (n := 0) (e := ((12 * j2) + j9)) (h1 := (hp o0 a0 t0 p0 (mo z sa ro te fr to un (upd (L_5layGains_9 m nv nc z j2 (L_5layGains_2 m nv nc z ga j2) j9) ((12 * j2) + j9) (W_5scansOf_32 j2 z (m - 1) 0 (z (11 + 7 * j9 + 3)) (z (11 + 7 * j9 + 4)) ((nI ((lv z j9))) - (L_5leavesWith_5 j9 (nI (1)) z (lv z j9))) (nI (0)) (nI (0)))) pi be bm en sta sv ln th hh) u0 l0)) ok_X5_layGains_79 (by first | rfl | (simp only [nI_add, pk_mul]; first | done | rfl)) rfl rfl (by omega) (by decide) rfl ?_
            refine AR.run g_X5_layGains_80_2 9 [some (.ref 16384), some (.int (nI (m))), some (.int (nI (j2))), some (.int ((nI (j9)) + (nI (1)))), some (.int (nI (1)))] [] _ [] rfl trivial ?_
            refine AR.drop (L' := [some (.ref 16384), some (.int (nI (m))), some (.int (nI (j2))), some (.int ((nI (j9)) + (nI (1)))), none]) ⟨rfl, rfl, rfl, rfl, trivial⟩ ?_
            have e13 : L_5layGains_9 m nv nc z j2 (L_5layGains_2 m nv nc z ga j2) (j9 + 1) = (upd (L_5layGains_9 m nv nc z j2 (L_5layGains_2 m nv nc z ga j2) j9) ((12 * j2) + j9) (W_5scansOf_32 j2 z (m - 1) 0 (z (11 + 7 * j9 + 3)) (z (11 + 7 * j9 + 4)) ((nI ((lv z j9))) - (L_5leavesWith_5 j9 (nI (1)) z (lv z j9))) (nI (0)) (nI (0)))) := by rw [L_5layGains_9, B_5layGains_9, if_neg (show ¬ (nc ≤ j2) from by omega), if_neg (show ¬ (nv ≤ j9) from by omega), if_neg c41_9]
            exact AR.cast (L' := [some (.ref 16384), some (.int (nI (m))), some (.int (nI (j2))), some (.int (nI (j9 + 1))), none]) (by first | rfl | rw [nI_add]) rfl (by rw [e13]) (ih9 (by first | trivial | omega))
    · refine AR.run g_X5_layGains_9_2 12 [some (.ref 16384), some (.int (nI (m))), some (.int (nI (j2))), some (.int (nI (12))), none] [.int (nI (12)), .int (nI (12))] _ [] rfl trivial ?_
      refine AR.ge2N (tgt := 86) (a := 12) (b := 12) dc_X5_layGains_12 (by decide) (by first | rfl | (simp only [nI_add, pk_mul]; first | done | rfl)) (by first | rfl | (simp only [nI_add, pk_mul]; first | done | rfl)) (by omega) (by omega) (fun c12_14 => ?_) (fun c12_14 => absurd c12_14 (by omega))
      refine AR.run g_X5_layGains_86_2 2 [some (.ref 16384), some (.int (nI (m))), some (.int ((nI (j2)) + (nI (1)))), some (.int (nI (12))), none] [] _ [] rfl trivial ?_
      refine AR.drop (L' := [some (.ref 16384), some (.int (nI (m))), some (.int ((nI (j2)) + (nI (1)))), none, none]) ⟨rfl, rfl, rfl, trivial⟩ ?_
      have e15 : L_5layGains_2 m nv nc z ga (j2 + 1) = (L_5layGains_9 m nv nc z j2 (L_5layGains_2 m nv nc z ga j2) 12) := by rw [L_5layGains_2, B_5layGains_2]
      exact AR.cast (L' := [some (.ref 16384), some (.int (nI (m))), some (.int (nI (j2 + 1))), none, none]) (by first | rfl | rw [nI_add]) rfl (by rw [e15]) (ih2 (by first | trivial | omega))
  · refine AR.run g_X5_layGains_2_2 4 [some (.ref 16384), some (.int (nI (m))), some (.int (nI (4))), none, none] [.int (nI (4)), .int (nI (4))] _ [] rfl trivial ?_
    refine AR.ge2N (tgt := 92) (a := 4) (b := 4) dc_X5_layGains_4 (by decide) (by first | rfl | (simp only [nI_add, pk_mul]; first | done | rfl)) (by first | rfl | (simp only [nI_add, pk_mul]; first | done | rfl)) (by omega) (by omega) (fun c4_16 => ?_) (fun c4_16 => absurd c4_16 (by omega))
    have e17_0 : F_5layGains_ga m nv nc z ga = (L_5layGains_2 m nv nc z ga 4) := by rw [F_5layGains_ga]
    exact AR.retV dc_X5_layGains_92 rfl (by rw [e17_0])
end
section
def B_5canPick_38 (c : Nat) (pi : Nat → Int32) (j38 : Nat) (x38_2 : Int32) : (Int32) := if x38_2 = 0 then (nI (0)) else if (pi c) = (-1) then (nI (1)) else if (pi j38) = (pi c) then (nI (0)) else (nI (1))
def L_5canPick_38 (c : Nat) (pi : Nat → Int32) (i38_0 : Int32) : Nat → (Int32)
  | 0 => i38_0
  | j + 1 => B_5canPick_38 c pi j (L_5canPick_38 c pi i38_0 j)
def F_5canPick (c : Nat) (ga : Nat → Int32) (pi : Nat → Int32) : Int32 := if (pi c) = (-1) then (L_5canPick_38 c pi (nI (1)) c) else if (ga ((12 * c) + (pi c).toNatClampNeg)) = (-1) then (L_5canPick_38 c pi (nI (0)) c) else (L_5canPick_38 c pi (nI (1)) c)
theorem g_X5_canPick_0_3 : ab_oks M_X5_canPick [(0, .aload_n 0, 1, 0, 0, 0, .null), (1, .getfield 34, 3, 5, 8, 938, .null), (4, .iload_n 1, 1, 1, 0, 0, .null)] = true := by decide +kernel
theorem ok_X5_canPick_5 : ab_ok M_X5_canPick (5, .iaload, 1, 0, 0, 0, .null) = true := by decide +kernel
theorem g_X5_canPick_6_1 : ab_oks M_X5_canPick [(6, .iconst (-1), 1, 0, 0, 0, .int (-1))] = true := by decide +kernel
theorem dc_X5_canPick_7 : decode (AM.bytes M_X5_canPick) 7 = .ok (.if_icmp .eq 23, 3) := by decide +kernel
theorem g_X5_canPick_30_5 : ab_oks M_X5_canPick [(30, .iconst 1, 1, 0, 0, 0, .int (nI (1))), (31, .goto 4, 3, 35, 0, 0, .null), (35, .istore_n 2, 1, 2, 0, 0, .null), (36, .iconst 0, 1, 0, 0, 0, .int (nI (0))), (37, .istore_n 3, 1, 3, 0, 0, .null)] = true := by decide +kernel
theorem g_X5_canPick_38_2 : ab_oks M_X5_canPick [(38, .iload_n 3, 1, 3, 0, 0, .null), (39, .iload_n 1, 1, 1, 0, 0, .null)] = true := by decide +kernel
theorem dc_X5_canPick_40 : decode (AM.bytes M_X5_canPick) 40 = .ok (.if_icmp .ge 44, 3) := by decide +kernel
theorem g_X5_canPick_43_1 : ab_oks M_X5_canPick [(43, .iload_n 2, 1, 2, 0, 0, .null)] = true := by decide +kernel
theorem dc_X5_canPick_44 : decode (AM.bytes M_X5_canPick) 44 = .ok (.ifCond .eq 32, 3) := by decide +kernel
theorem g_X5_canPick_76_4 : ab_oks M_X5_canPick [(76, .iconst 0, 1, 0, 0, 0, .int (nI (0))), (77, .istore_n 2, 1, 2, 0, 0, .null), (78, .iinc 3 1, 3, 3, 0, 0, .int (nI (1))), (81, .goto (-43), 3, 38, 0, 0, .null)] = true := by decide +kernel
theorem g_X5_canPick_47_3 : ab_oks M_X5_canPick [(47, .aload_n 0, 1, 0, 0, 0, .null), (48, .getfield 34, 3, 5, 8, 938, .null), (51, .iload_n 1, 1, 1, 0, 0, .null)] = true := by decide +kernel
theorem ok_X5_canPick_52 : ab_ok M_X5_canPick (52, .iaload, 1, 0, 0, 0, .null) = true := by decide +kernel
theorem g_X5_canPick_53_1 : ab_oks M_X5_canPick [(53, .iconst (-1), 1, 0, 0, 0, .int (-1))] = true := by decide +kernel
theorem dc_X5_canPick_54 : decode (AM.bytes M_X5_canPick) 54 = .ok (.if_icmp .eq 18, 3) := by decide +kernel
theorem g_X5_canPick_72_5 : ab_oks M_X5_canPick [(72, .iconst 1, 1, 0, 0, 0, .int (nI (1))), (73, .goto 4, 3, 77, 0, 0, .null), (77, .istore_n 2, 1, 2, 0, 0, .null), (78, .iinc 3 1, 3, 3, 0, 0, .int (nI (1))), (81, .goto (-43), 3, 38, 0, 0, .null)] = true := by decide +kernel
theorem g_X5_canPick_57_3 : ab_oks M_X5_canPick [(57, .aload_n 0, 1, 0, 0, 0, .null), (58, .getfield 34, 3, 5, 8, 938, .null), (61, .iload_n 3, 1, 3, 0, 0, .null)] = true := by decide +kernel
theorem ok_X5_canPick_62 : ab_ok M_X5_canPick (62, .iaload, 1, 0, 0, 0, .null) = true := by decide +kernel
theorem g_X5_canPick_63_3 : ab_oks M_X5_canPick [(63, .aload_n 0, 1, 0, 0, 0, .null), (64, .getfield 34, 3, 5, 8, 938, .null), (67, .iload_n 1, 1, 1, 0, 0, .null)] = true := by decide +kernel
theorem ok_X5_canPick_68 : ab_ok M_X5_canPick (68, .iaload, 1, 0, 0, 0, .null) = true := by decide +kernel
theorem dc_X5_canPick_69 : decode (AM.bytes M_X5_canPick) 69 = .ok (.if_icmp .eq 7, 3) := by decide +kernel
theorem g_X5_canPick_84_1 : ab_oks M_X5_canPick [(84, .iload_n 2, 1, 2, 0, 0, .null)] = true := by decide +kernel
theorem dc_X5_canPick_85 : decode (AM.bytes M_X5_canPick) 85 = .ok (.ireturn, 1) := by decide +kernel
theorem g_X5_canPick_10_8 : ab_oks M_X5_canPick [(10, .aload_n 0, 1, 0, 0, 0, .null), (11, .getfield 31, 3, 5, 7, 937, .null), (14, .bipush 12, 2, 0, 0, 0, .int (nI (12))), (16, .iload_n 1, 1, 1, 0, 0, .null), (17, .imul, 1, 0, 0, 0, .null), (18, .aload_n 0, 1, 0, 0, 0, .null), (19, .getfield 34, 3, 5, 8, 938, .null), (22, .iload_n 1, 1, 1, 0, 0, .null)] = true := by decide +kernel
theorem ok_X5_canPick_23 : ab_ok M_X5_canPick (23, .iaload, 1, 0, 0, 0, .null) = true := by decide +kernel
theorem g_X5_canPick_24_1 : ab_oks M_X5_canPick [(24, .iadd, 1, 0, 0, 0, .null)] = true := by decide +kernel
theorem ok_X5_canPick_25 : ab_ok M_X5_canPick (25, .iaload, 1, 0, 0, 0, .null) = true := by decide +kernel
theorem g_X5_canPick_26_1 : ab_oks M_X5_canPick [(26, .iconst (-1), 1, 0, 0, 0, .int (-1))] = true := by decide +kernel
theorem dc_X5_canPick_27 : decode (AM.bytes M_X5_canPick) 27 = .ok (.if_icmp .eq 7, 3) := by decide +kernel
theorem g_X5_canPick_34_4 : ab_oks M_X5_canPick [(34, .iconst 0, 1, 0, 0, 0, .int (nI (0))), (35, .istore_n 2, 1, 2, 0, 0, .null), (36, .iconst 0, 1, 0, 0, 0, .int (nI (0))), (37, .istore_n 3, 1, 3, 0, 0, .null)] = true := by decide +kernel
set_option maxRecDepth 100000 in
set_option maxHeartbeats 4000000 in
theorem s_5canPick {E : AE} (d : Nat) (c : Nat)  {o0 a0 t0 p0 u0 l0 : List AC} {z sa ro te fr to un ga pi be : Nat → Int32} {bm en sta sv ln th : Int32} {hh : Int64} (hc : c < 4) (hpk : QI 12 (pi c)) : CT E M_X5_canPick d [.ref 16384, .int (nI (c))] (hp o0 a0 t0 p0 (mo z sa ro te fr to un ga pi be bm en sta sv ln th hh) u0 l0) (.inl (some (.int (F_5canPick c ga pi)))) (hp o0 a0 t0 p0 (mo z sa ro te fr to un ga pi be bm en sta sv ln th hh) u0 l0) 0 0 := by
  refine CT.of (L := [some (.ref 16384), some (.int (nI (c))), none, none]) rfl rfl ?_
  refine AR.run g_X5_canPick_0_3 5 [some (.ref 16384), some (.int (nI (c))), none, none] [.int (nI (c)), .ref 16393] _ [] rfl trivial ?_
  refine AR.ald (n := 0) (e := c) ok_X5_canPick_5 (by first | rfl | (simp only [nI_add, pk_mul]; first | done | rfl)) rfl (by omega) (by first | decide | omega) ?_
  refine AR.run g_X5_canPick_6_1 7 [some (.ref 16384), some (.int (nI (c))), none, none] [.int (-1), .int (pi c)] _ [] rfl trivial ?_
  refine AR.eq2 (tgt := 30) dc_X5_canPick_7 (by decide) (fun c7_1 => ?_) (fun c7_1 => ?_)
  · refine AR.run g_X5_canPick_30_5 38 [some (.ref 16384), some (.int (nI (c))), some (.int (nI (1))), some (.int (nI (0)))] [] _ [] rfl trivial ?_
    refine AR.cast (L' := [some (.ref 16384), some (.int (nI (c))), some (.int (L_5canPick_38 c pi (nI (1)) 0)), some (.int (nI (0)))]) (by first | rfl | (rw [L_5canPick_38])) rfl rfl (AR.loopN c (fun j38 => [some (.ref 16384), some (.int (nI (c))), some (.int (L_5canPick_38 c pi (nI (1)) j38)), some (.int (nI (j38)))]) (fun j38 => (hp o0 a0 t0 p0 (mo z sa ro te fr to un ga pi be bm en sta sv ln th hh) u0 l0)) (fun j38 => (L_5canPick_38 c pi (nI (1)) j38 = 0 ∨ L_5canPick_38 c pi (nI (1)) j38 = 1)) (fun j38 hj38 hI38 ih38 => ?_) (fun hI38 => ?_) 0 (by omega) (by first | exact Or.inl rfl | exact Or.inr rfl))
    · refine AR.run g_X5_canPick_38_2 40 [some (.ref 16384), some (.int (nI (c))), some (.int (L_5canPick_38 c pi (nI (1)) j38)), some (.int (nI (j38)))] [.int (nI (c)), .int (nI (j38))] _ [] rfl trivial ?_
      refine AR.ge2N (tgt := 84) (a := j38) (b := c) dc_X5_canPick_40 (by decide) (by first | rfl | (simp only [nI_add, pk_mul]; first | done | rfl)) (by first | rfl | (simp only [nI_add, pk_mul]; first | done | rfl)) (by omega) (by omega) (fun c40_2 => absurd c40_2 (by omega)) (fun c40_2 => ?_)
      refine AR.run g_X5_canPick_43_1 44 [some (.ref 16384), some (.int (nI (c))), some (.int (L_5canPick_38 c pi (nI (1)) j38)), some (.int (nI (j38)))] [.int (L_5canPick_38 c pi (nI (1)) j38)] _ [] rfl trivial ?_
      refine AR.eq (tgt := 76) dc_X5_canPick_44 (by decide) (fun c44_3 => ?_) (fun c44_3 => ?_)
      · refine AR.run g_X5_canPick_76_4 38 [some (.ref 16384), some (.int (nI (c))), some (.int (nI (0))), some (.int ((nI (j38)) + (nI (1))))] [] _ [] rfl trivial ?_
        have e4 : L_5canPick_38 c pi (nI (1)) (j38 + 1) = (nI (0)) := by rw [L_5canPick_38, B_5canPick_38, if_pos c44_3]
        exact AR.cast (L' := [some (.ref 16384), some (.int (nI (c))), some (.int (L_5canPick_38 c pi (nI (1)) (j38 + 1))), some (.int (nI (j38 + 1)))]) (by rw [e4, nI_add]) rfl rfl (ih38 (by rw [e4]; first | exact Or.inl rfl | exact Or.inr rfl))
      · refine AR.run g_X5_canPick_47_3 52 [some (.ref 16384), some (.int (nI (c))), some (.int (L_5canPick_38 c pi (nI (1)) j38)), some (.int (nI (j38)))] [.int (nI (c)), .ref 16393] _ [] rfl trivial ?_
        refine AR.ald (n := 0) (e := c) ok_X5_canPick_52 (by first | rfl | (simp only [nI_add, pk_mul]; first | done | rfl)) rfl (by omega) (by first | decide | omega) ?_
        refine AR.run g_X5_canPick_53_1 54 [some (.ref 16384), some (.int (nI (c))), some (.int (L_5canPick_38 c pi (nI (1)) j38)), some (.int (nI (j38)))] [.int (-1), .int (pi c)] _ [] rfl trivial ?_
        refine AR.eq2 (tgt := 72) dc_X5_canPick_54 (by decide) (fun c54_5 => ?_) (fun c54_5 => ?_)
        · refine AR.run g_X5_canPick_72_5 38 [some (.ref 16384), some (.int (nI (c))), some (.int (nI (1))), some (.int ((nI (j38)) + (nI (1))))] [] _ [] rfl trivial ?_
          have e6 : L_5canPick_38 c pi (nI (1)) (j38 + 1) = (nI (1)) := by rw [L_5canPick_38, B_5canPick_38, if_neg c44_3, if_pos c54_5]
          exact AR.cast (L' := [some (.ref 16384), some (.int (nI (c))), some (.int (L_5canPick_38 c pi (nI (1)) (j38 + 1))), some (.int (nI (j38 + 1)))]) (by rw [e6, nI_add]) rfl rfl (ih38 (by rw [e6]; first | exact Or.inl rfl | exact Or.inr rfl))
        · refine AR.run g_X5_canPick_57_3 62 [some (.ref 16384), some (.int (nI (c))), some (.int (L_5canPick_38 c pi (nI (1)) j38)), some (.int (nI (j38)))] [.int (nI (j38)), .ref 16393] _ [] rfl trivial ?_
          refine AR.ald (n := 0) (e := j38) ok_X5_canPick_62 (by first | rfl | (simp only [nI_add, pk_mul]; first | done | rfl)) rfl (by omega) (by first | decide | omega) ?_
          refine AR.run g_X5_canPick_63_3 68 [some (.ref 16384), some (.int (nI (c))), some (.int (L_5canPick_38 c pi (nI (1)) j38)), some (.int (nI (j38)))] [.int (nI (c)), .ref 16393, .int (pi j38)] _ [] rfl trivial ?_
          refine AR.ald (n := 0) (e := c) ok_X5_canPick_68 (by first | rfl | (simp only [nI_add, pk_mul]; first | done | rfl)) rfl (by omega) (by first | decide | omega) ?_
          refine AR.eq2 (tgt := 76) dc_X5_canPick_69 (by decide) (fun c69_7 => ?_) (fun c69_7 => ?_)
          · refine AR.run g_X5_canPick_76_4 38 [some (.ref 16384), some (.int (nI (c))), some (.int (nI (0))), some (.int ((nI (j38)) + (nI (1))))] [] _ [] rfl trivial ?_
            have e8 : L_5canPick_38 c pi (nI (1)) (j38 + 1) = (nI (0)) := by rw [L_5canPick_38, B_5canPick_38, if_neg c44_3, if_neg c54_5, if_pos c69_7]
            exact AR.cast (L' := [some (.ref 16384), some (.int (nI (c))), some (.int (L_5canPick_38 c pi (nI (1)) (j38 + 1))), some (.int (nI (j38 + 1)))]) (by rw [e8, nI_add]) rfl rfl (ih38 (by rw [e8]; first | exact Or.inl rfl | exact Or.inr rfl))
          · refine AR.run g_X5_canPick_72_5 38 [some (.ref 16384), some (.int (nI (c))), some (.int (nI (1))), some (.int ((nI (j38)) + (nI (1))))] [] _ [] rfl trivial ?_
            have e9 : L_5canPick_38 c pi (nI (1)) (j38 + 1) = (nI (1)) := by rw [L_5canPick_38, B_5canPick_38, if_neg c44_3, if_neg c54_5, if_neg c69_7]
            exact AR.cast (L' := [some (.ref 16384), some (.int (nI (c))), some (.int (L_5canPick_38 c pi (nI (1)) (j38 + 1))), some (.int (nI (j38 + 1)))]) (by rw [e9, nI_add]) rfl rfl (ih38 (by rw [e9]; first | exact Or.inl rfl | exact Or.inr rfl))
    · refine AR.run g_X5_canPick_38_2 40 [some (.ref 16384), some (.int (nI (c))), some (.int (L_5canPick_38 c pi (nI (1)) c)), some (.int (nI (c)))] [.int (nI (c)), .int (nI (c))] _ [] rfl trivial ?_
      refine AR.ge2N (tgt := 84) (a := c) (b := c) dc_X5_canPick_40 (by decide) (by first | rfl | (simp only [nI_add, pk_mul]; first | done | rfl)) (by first | rfl | (simp only [nI_add, pk_mul]; first | done | rfl)) (by omega) (by omega) (fun c40_10 => ?_) (fun c40_10 => absurd c40_10 (by omega))
      refine AR.run g_X5_canPick_84_1 85 [some (.ref 16384), some (.int (nI (c))), some (.int (L_5canPick_38 c pi (nI (1)) c)), some (.int (nI (c)))] [.int (L_5canPick_38 c pi (nI (1)) c)] _ [] rfl trivial ?_
      have e11_0 : F_5canPick c ga pi = (L_5canPick_38 c pi (nI (1)) c) := by rw [F_5canPick, if_pos c7_1]
      exact AR.retZ dc_X5_canPick_85 rfl hI38 e11_0.symm rfl
  · refine AR.run g_X5_canPick_10_8 23 [some (.ref 16384), some (.int (nI (c))), none, none] [.int (nI (c)), .ref 16393, .int ((nI (12)) * (nI (c))), .ref 16392] _ [] rfl trivial ?_
    refine AR.ald (n := 0) (e := c) ok_X5_canPick_23 (by first | rfl | (simp only [nI_add, pk_mul]; first | done | rfl)) rfl (by omega) (by first | decide | omega) ?_
    obtain ⟨hx9, hy9⟩ := QI_get (by omega) hpk (by assumption)
    refine AR.cast (st' := [.int (nI ((pi c).toNatClampNeg)), .int ((nI (12)) * (nI (c))), .ref 16392]) rfl (by rw [← hx9]) rfl ?_
    refine AR.run g_X5_canPick_24_1 25 [some (.ref 16384), some (.int (nI (c))), none, none] [.int (((nI (12)) * (nI (c))) + (nI ((pi c).toNatClampNeg))), .ref 16392] _ [] rfl trivial ?_
    refine AR.ald (n := 0) (e := ((12 * c) + (pi c).toNatClampNeg)) ok_X5_canPick_25 (by first | rfl | (simp only [nI_add, pk_mul]; first | done | rfl)) rfl (by omega) (by first | decide | omega) ?_
    refine AR.run g_X5_canPick_26_1 27 [some (.ref 16384), some (.int (nI (c))), none, none] [.int (-1), .int (ga ((12 * c) + (pi c).toNatClampNeg))] _ [] rfl trivial ?_
    refine AR.eq2 (tgt := 34) dc_X5_canPick_27 (by decide) (fun c27_12 => ?_) (fun c27_12 => ?_)
    · refine AR.run g_X5_canPick_34_4 38 [some (.ref 16384), some (.int (nI (c))), some (.int (nI (0))), some (.int (nI (0)))] [] _ [] rfl trivial ?_
      refine AR.cast (L' := [some (.ref 16384), some (.int (nI (c))), some (.int (L_5canPick_38 c pi (nI (0)) 0)), some (.int (nI (0)))]) (by first | rfl | (rw [L_5canPick_38])) rfl rfl (AR.loopN c (fun j38 => [some (.ref 16384), some (.int (nI (c))), some (.int (L_5canPick_38 c pi (nI (0)) j38)), some (.int (nI (j38)))]) (fun j38 => (hp o0 a0 t0 p0 (mo z sa ro te fr to un ga pi be bm en sta sv ln th hh) u0 l0)) (fun j38 => (L_5canPick_38 c pi (nI (0)) j38 = 0 ∨ L_5canPick_38 c pi (nI (0)) j38 = 1)) (fun j38 hj38 hI38 ih38 => ?_) (fun hI38 => ?_) 0 (by omega) (by first | exact Or.inl rfl | exact Or.inr rfl))
      · refine AR.run g_X5_canPick_38_2 40 [some (.ref 16384), some (.int (nI (c))), some (.int (L_5canPick_38 c pi (nI (0)) j38)), some (.int (nI (j38)))] [.int (nI (c)), .int (nI (j38))] _ [] rfl trivial ?_
        refine AR.ge2N (tgt := 84) (a := j38) (b := c) dc_X5_canPick_40 (by decide) (by first | rfl | (simp only [nI_add, pk_mul]; first | done | rfl)) (by first | rfl | (simp only [nI_add, pk_mul]; first | done | rfl)) (by omega) (by omega) (fun c40_13 => absurd c40_13 (by omega)) (fun c40_13 => ?_)
        refine AR.run g_X5_canPick_43_1 44 [some (.ref 16384), some (.int (nI (c))), some (.int (L_5canPick_38 c pi (nI (0)) j38)), some (.int (nI (j38)))] [.int (L_5canPick_38 c pi (nI (0)) j38)] _ [] rfl trivial ?_
        refine AR.eq (tgt := 76) dc_X5_canPick_44 (by decide) (fun c44_14 => ?_) (fun c44_14 => ?_)
        · refine AR.run g_X5_canPick_76_4 38 [some (.ref 16384), some (.int (nI (c))), some (.int (nI (0))), some (.int ((nI (j38)) + (nI (1))))] [] _ [] rfl trivial ?_
          have e15 : L_5canPick_38 c pi (nI (0)) (j38 + 1) = (nI (0)) := by rw [L_5canPick_38, B_5canPick_38, if_pos c44_14]
          exact AR.cast (L' := [some (.ref 16384), some (.int (nI (c))), some (.int (L_5canPick_38 c pi (nI (0)) (j38 + 1))), some (.int (nI (j38 + 1)))]) (by rw [e15, nI_add]) rfl rfl (ih38 (by rw [e15]; first | exact Or.inl rfl | exact Or.inr rfl))
        · refine AR.run g_X5_canPick_47_3 52 [some (.ref 16384), some (.int (nI (c))), some (.int (L_5canPick_38 c pi (nI (0)) j38)), some (.int (nI (j38)))] [.int (nI (c)), .ref 16393] _ [] rfl trivial ?_
          refine AR.ald (n := 0) (e := c) ok_X5_canPick_52 (by first | rfl | (simp only [nI_add, pk_mul]; first | done | rfl)) rfl (by omega) (by first | decide | omega) ?_
          refine AR.run g_X5_canPick_53_1 54 [some (.ref 16384), some (.int (nI (c))), some (.int (L_5canPick_38 c pi (nI (0)) j38)), some (.int (nI (j38)))] [.int (-1), .int (pi c)] _ [] rfl trivial ?_
          refine AR.eq2 (tgt := 72) dc_X5_canPick_54 (by decide) (fun c54_16 => ?_) (fun c54_16 => ?_)
          · refine AR.run g_X5_canPick_72_5 38 [some (.ref 16384), some (.int (nI (c))), some (.int (nI (1))), some (.int ((nI (j38)) + (nI (1))))] [] _ [] rfl trivial ?_
            have e17 : L_5canPick_38 c pi (nI (0)) (j38 + 1) = (nI (1)) := by rw [L_5canPick_38, B_5canPick_38, if_neg c44_14, if_pos c54_16]
            exact AR.cast (L' := [some (.ref 16384), some (.int (nI (c))), some (.int (L_5canPick_38 c pi (nI (0)) (j38 + 1))), some (.int (nI (j38 + 1)))]) (by rw [e17, nI_add]) rfl rfl (ih38 (by rw [e17]; first | exact Or.inl rfl | exact Or.inr rfl))
          · refine AR.run g_X5_canPick_57_3 62 [some (.ref 16384), some (.int (nI (c))), some (.int (L_5canPick_38 c pi (nI (0)) j38)), some (.int (nI (j38)))] [.int (nI (j38)), .ref 16393] _ [] rfl trivial ?_
            refine AR.ald (n := 0) (e := j38) ok_X5_canPick_62 (by first | rfl | (simp only [nI_add, pk_mul]; first | done | rfl)) rfl (by omega) (by first | decide | omega) ?_
            refine AR.run g_X5_canPick_63_3 68 [some (.ref 16384), some (.int (nI (c))), some (.int (L_5canPick_38 c pi (nI (0)) j38)), some (.int (nI (j38)))] [.int (nI (c)), .ref 16393, .int (pi j38)] _ [] rfl trivial ?_
            refine AR.ald (n := 0) (e := c) ok_X5_canPick_68 (by first | rfl | (simp only [nI_add, pk_mul]; first | done | rfl)) rfl (by omega) (by first | decide | omega) ?_
            refine AR.eq2 (tgt := 76) dc_X5_canPick_69 (by decide) (fun c69_18 => ?_) (fun c69_18 => ?_)
            · refine AR.run g_X5_canPick_76_4 38 [some (.ref 16384), some (.int (nI (c))), some (.int (nI (0))), some (.int ((nI (j38)) + (nI (1))))] [] _ [] rfl trivial ?_
              have e19 : L_5canPick_38 c pi (nI (0)) (j38 + 1) = (nI (0)) := by rw [L_5canPick_38, B_5canPick_38, if_neg c44_14, if_neg c54_16, if_pos c69_18]
              exact AR.cast (L' := [some (.ref 16384), some (.int (nI (c))), some (.int (L_5canPick_38 c pi (nI (0)) (j38 + 1))), some (.int (nI (j38 + 1)))]) (by rw [e19, nI_add]) rfl rfl (ih38 (by rw [e19]; first | exact Or.inl rfl | exact Or.inr rfl))
            · refine AR.run g_X5_canPick_72_5 38 [some (.ref 16384), some (.int (nI (c))), some (.int (nI (1))), some (.int ((nI (j38)) + (nI (1))))] [] _ [] rfl trivial ?_
              have e20 : L_5canPick_38 c pi (nI (0)) (j38 + 1) = (nI (1)) := by rw [L_5canPick_38, B_5canPick_38, if_neg c44_14, if_neg c54_16, if_neg c69_18]
              exact AR.cast (L' := [some (.ref 16384), some (.int (nI (c))), some (.int (L_5canPick_38 c pi (nI (0)) (j38 + 1))), some (.int (nI (j38 + 1)))]) (by rw [e20, nI_add]) rfl rfl (ih38 (by rw [e20]; first | exact Or.inl rfl | exact Or.inr rfl))
      · refine AR.run g_X5_canPick_38_2 40 [some (.ref 16384), some (.int (nI (c))), some (.int (L_5canPick_38 c pi (nI (0)) c)), some (.int (nI (c)))] [.int (nI (c)), .int (nI (c))] _ [] rfl trivial ?_
        refine AR.ge2N (tgt := 84) (a := c) (b := c) dc_X5_canPick_40 (by decide) (by first | rfl | (simp only [nI_add, pk_mul]; first | done | rfl)) (by first | rfl | (simp only [nI_add, pk_mul]; first | done | rfl)) (by omega) (by omega) (fun c40_21 => ?_) (fun c40_21 => absurd c40_21 (by omega))
        refine AR.run g_X5_canPick_84_1 85 [some (.ref 16384), some (.int (nI (c))), some (.int (L_5canPick_38 c pi (nI (0)) c)), some (.int (nI (c)))] [.int (L_5canPick_38 c pi (nI (0)) c)] _ [] rfl trivial ?_
        have e22_0 : F_5canPick c ga pi = (L_5canPick_38 c pi (nI (0)) c) := by rw [F_5canPick, if_neg c7_1, if_pos c27_12]
        exact AR.retZ dc_X5_canPick_85 rfl hI38 e22_0.symm rfl
    · refine AR.run g_X5_canPick_30_5 38 [some (.ref 16384), some (.int (nI (c))), some (.int (nI (1))), some (.int (nI (0)))] [] _ [] rfl trivial ?_
      refine AR.cast (L' := [some (.ref 16384), some (.int (nI (c))), some (.int (L_5canPick_38 c pi (nI (1)) 0)), some (.int (nI (0)))]) (by first | rfl | (rw [L_5canPick_38])) rfl rfl (AR.loopN c (fun j38 => [some (.ref 16384), some (.int (nI (c))), some (.int (L_5canPick_38 c pi (nI (1)) j38)), some (.int (nI (j38)))]) (fun j38 => (hp o0 a0 t0 p0 (mo z sa ro te fr to un ga pi be bm en sta sv ln th hh) u0 l0)) (fun j38 => (L_5canPick_38 c pi (nI (1)) j38 = 0 ∨ L_5canPick_38 c pi (nI (1)) j38 = 1)) (fun j38 hj38 hI38 ih38 => ?_) (fun hI38 => ?_) 0 (by omega) (by first | exact Or.inl rfl | exact Or.inr rfl))
      · refine AR.run g_X5_canPick_38_2 40 [some (.ref 16384), some (.int (nI (c))), some (.int (L_5canPick_38 c pi (nI (1)) j38)), some (.int (nI (j38)))] [.int (nI (c)), .int (nI (j38))] _ [] rfl trivial ?_
        refine AR.ge2N (tgt := 84) (a := j38) (b := c) dc_X5_canPick_40 (by decide) (by first | rfl | (simp only [nI_add, pk_mul]; first | done | rfl)) (by first | rfl | (simp only [nI_add, pk_mul]; first | done | rfl)) (by omega) (by omega) (fun c40_23 => absurd c40_23 (by omega)) (fun c40_23 => ?_)
        refine AR.run g_X5_canPick_43_1 44 [some (.ref 16384), some (.int (nI (c))), some (.int (L_5canPick_38 c pi (nI (1)) j38)), some (.int (nI (j38)))] [.int (L_5canPick_38 c pi (nI (1)) j38)] _ [] rfl trivial ?_
        refine AR.eq (tgt := 76) dc_X5_canPick_44 (by decide) (fun c44_24 => ?_) (fun c44_24 => ?_)
        · refine AR.run g_X5_canPick_76_4 38 [some (.ref 16384), some (.int (nI (c))), some (.int (nI (0))), some (.int ((nI (j38)) + (nI (1))))] [] _ [] rfl trivial ?_
          have e25 : L_5canPick_38 c pi (nI (1)) (j38 + 1) = (nI (0)) := by rw [L_5canPick_38, B_5canPick_38, if_pos c44_24]
          exact AR.cast (L' := [some (.ref 16384), some (.int (nI (c))), some (.int (L_5canPick_38 c pi (nI (1)) (j38 + 1))), some (.int (nI (j38 + 1)))]) (by rw [e25, nI_add]) rfl rfl (ih38 (by rw [e25]; first | exact Or.inl rfl | exact Or.inr rfl))
        · refine AR.run g_X5_canPick_47_3 52 [some (.ref 16384), some (.int (nI (c))), some (.int (L_5canPick_38 c pi (nI (1)) j38)), some (.int (nI (j38)))] [.int (nI (c)), .ref 16393] _ [] rfl trivial ?_
          refine AR.ald (n := 0) (e := c) ok_X5_canPick_52 (by first | rfl | (simp only [nI_add, pk_mul]; first | done | rfl)) rfl (by omega) (by first | decide | omega) ?_
          refine AR.run g_X5_canPick_53_1 54 [some (.ref 16384), some (.int (nI (c))), some (.int (L_5canPick_38 c pi (nI (1)) j38)), some (.int (nI (j38)))] [.int (-1), .int (pi c)] _ [] rfl trivial ?_
          refine AR.eq2 (tgt := 72) dc_X5_canPick_54 (by decide) (fun c54_26 => ?_) (fun c54_26 => ?_)
          · refine AR.run g_X5_canPick_72_5 38 [some (.ref 16384), some (.int (nI (c))), some (.int (nI (1))), some (.int ((nI (j38)) + (nI (1))))] [] _ [] rfl trivial ?_
            have e27 : L_5canPick_38 c pi (nI (1)) (j38 + 1) = (nI (1)) := by rw [L_5canPick_38, B_5canPick_38, if_neg c44_24, if_pos c54_26]
            exact AR.cast (L' := [some (.ref 16384), some (.int (nI (c))), some (.int (L_5canPick_38 c pi (nI (1)) (j38 + 1))), some (.int (nI (j38 + 1)))]) (by rw [e27, nI_add]) rfl rfl (ih38 (by rw [e27]; first | exact Or.inl rfl | exact Or.inr rfl))
          · refine AR.run g_X5_canPick_57_3 62 [some (.ref 16384), some (.int (nI (c))), some (.int (L_5canPick_38 c pi (nI (1)) j38)), some (.int (nI (j38)))] [.int (nI (j38)), .ref 16393] _ [] rfl trivial ?_
            refine AR.ald (n := 0) (e := j38) ok_X5_canPick_62 (by first | rfl | (simp only [nI_add, pk_mul]; first | done | rfl)) rfl (by omega) (by first | decide | omega) ?_
            refine AR.run g_X5_canPick_63_3 68 [some (.ref 16384), some (.int (nI (c))), some (.int (L_5canPick_38 c pi (nI (1)) j38)), some (.int (nI (j38)))] [.int (nI (c)), .ref 16393, .int (pi j38)] _ [] rfl trivial ?_
            refine AR.ald (n := 0) (e := c) ok_X5_canPick_68 (by first | rfl | (simp only [nI_add, pk_mul]; first | done | rfl)) rfl (by omega) (by first | decide | omega) ?_
            refine AR.eq2 (tgt := 76) dc_X5_canPick_69 (by decide) (fun c69_28 => ?_) (fun c69_28 => ?_)
            · refine AR.run g_X5_canPick_76_4 38 [some (.ref 16384), some (.int (nI (c))), some (.int (nI (0))), some (.int ((nI (j38)) + (nI (1))))] [] _ [] rfl trivial ?_
              have e29 : L_5canPick_38 c pi (nI (1)) (j38 + 1) = (nI (0)) := by rw [L_5canPick_38, B_5canPick_38, if_neg c44_24, if_neg c54_26, if_pos c69_28]
              exact AR.cast (L' := [some (.ref 16384), some (.int (nI (c))), some (.int (L_5canPick_38 c pi (nI (1)) (j38 + 1))), some (.int (nI (j38 + 1)))]) (by rw [e29, nI_add]) rfl rfl (ih38 (by rw [e29]; first | exact Or.inl rfl | exact Or.inr rfl))
            · refine AR.run g_X5_canPick_72_5 38 [some (.ref 16384), some (.int (nI (c))), some (.int (nI (1))), some (.int ((nI (j38)) + (nI (1))))] [] _ [] rfl trivial ?_
              have e30 : L_5canPick_38 c pi (nI (1)) (j38 + 1) = (nI (1)) := by rw [L_5canPick_38, B_5canPick_38, if_neg c44_24, if_neg c54_26, if_neg c69_28]
              exact AR.cast (L' := [some (.ref 16384), some (.int (nI (c))), some (.int (L_5canPick_38 c pi (nI (1)) (j38 + 1))), some (.int (nI (j38 + 1)))]) (by rw [e30, nI_add]) rfl rfl (ih38 (by rw [e30]; first | exact Or.inl rfl | exact Or.inr rfl))
      · refine AR.run g_X5_canPick_38_2 40 [some (.ref 16384), some (.int (nI (c))), some (.int (L_5canPick_38 c pi (nI (1)) c)), some (.int (nI (c)))] [.int (nI (c)), .int (nI (c))] _ [] rfl trivial ?_
        refine AR.ge2N (tgt := 84) (a := c) (b := c) dc_X5_canPick_40 (by decide) (by first | rfl | (simp only [nI_add, pk_mul]; first | done | rfl)) (by first | rfl | (simp only [nI_add, pk_mul]; first | done | rfl)) (by omega) (by omega) (fun c40_31 => ?_) (fun c40_31 => absurd c40_31 (by omega))
        refine AR.run g_X5_canPick_84_1 85 [some (.ref 16384), some (.int (nI (c))), some (.int (L_5canPick_38 c pi (nI (1)) c)), some (.int (nI (c)))] [.int (L_5canPick_38 c pi (nI (1)) c)] _ [] rfl trivial ?_
        have e32_0 : F_5canPick c ga pi = (L_5canPick_38 c pi (nI (1)) c) := by rw [F_5canPick, if_neg c7_1, if_neg c27_12]
        exact AR.retZ dc_X5_canPick_85 rfl hI38 e32_0.symm rfl
def F_5bestNow (w : Nat) (be : Nat → Int32) (bm : Int32) : Int32 := if w = 0 then bm else (be (w - 1))
theorem g_X5_bestNow_0_1 : ab_oks M_X5_bestNow [(0, .iload_n 1, 1, 1, 0, 0, .null)] = true := by decide +kernel
theorem dc_X5_bestNow_1 : decode (AM.bytes M_X5_bestNow) 1 = .ok (.ifCond .ne 10, 3) := by decide +kernel
theorem g_X5_bestNow_11_5 : ab_oks M_X5_bestNow [(11, .aload_n 0, 1, 0, 0, 0, .null), (12, .getfield 37, 3, 5, 9, 939, .null), (15, .iload_n 1, 1, 1, 0, 0, .null), (16, .iconst 1, 1, 0, 0, 0, .int (nI (1))), (17, .isub, 1, 0, 0, 0, .null)] = true := by decide +kernel
theorem ok_X5_bestNow_18 : ab_ok M_X5_bestNow (18, .iaload, 1, 0, 0, 0, .null) = true := by decide +kernel
theorem dc_X5_bestNow_19 : decode (AM.bytes M_X5_bestNow) 19 = .ok (.ireturn, 1) := by decide +kernel
theorem g_X5_bestNow_4_3 : ab_oks M_X5_bestNow [(4, .aload_n 0, 1, 0, 0, 0, .null), (5, .getfield 212, 3, 5, 10, 940, .null), (8, .goto 11, 3, 19, 0, 0, .null)] = true := by decide +kernel
set_option maxRecDepth 100000 in
set_option maxHeartbeats 4000000 in
theorem s_5bestNow {E : AE} (d : Nat) (w : Nat)  {o0 a0 t0 p0 u0 l0 : List AC} {z sa ro te fr to un ga pi be : Nat → Int32} {bm en sta sv ln th : Int32} {hh : Int64} (hw : w < 5) : CT E M_X5_bestNow d [.ref 16384, .int (nI (w))] (hp o0 a0 t0 p0 (mo z sa ro te fr to un ga pi be bm en sta sv ln th hh) u0 l0) (.inl (some (.int (F_5bestNow w be bm)))) (hp o0 a0 t0 p0 (mo z sa ro te fr to un ga pi be bm en sta sv ln th hh) u0 l0) 0 0 := by
  refine CT.of (L := [some (.ref 16384), some (.int (nI (w)))]) rfl rfl ?_
  refine AR.run g_X5_bestNow_0_1 1 [some (.ref 16384), some (.int (nI (w)))] [.int (nI (w))] _ [] rfl trivial ?_
  refine AR.neN (tgt := 11) (a := w) dc_X5_bestNow_1 (by decide) (by first | rfl | (simp only [nI_add, pk_mul]; first | done | rfl)) (by omega) (fun c1_1 => ?_) (fun c1_1 => ?_)
  · refine AR.run g_X5_bestNow_11_5 18 [some (.ref 16384), some (.int (nI (w)))] [.int ((nI (w)) - (nI (1))), .ref 16394] _ [] rfl trivial ?_
    refine AR.cast (L' := [some (.ref 16384), some (.int (nI (w)))]) (st' := [.int (nI ((w - 1))), .ref 16394]) rfl (by rw [pk_sub (by omega)]) rfl ?_
    refine AR.ald (n := 0) (e := (w - 1)) ok_X5_bestNow_18 (by first | rfl | (simp only [nI_add, pk_mul]; first | done | rfl)) rfl (by omega) (by first | decide | omega) ?_
    have e2_0 : F_5bestNow w be bm = (be (w - 1)) := by rw [F_5bestNow, if_neg (show ¬ (w = 0) from by omega)]
    exact AR.retI dc_X5_bestNow_19 rfl e2_0.symm rfl
  · refine AR.run g_X5_bestNow_4_3 19 [some (.ref 16384), some (.int (nI (w)))] [.int (bm)] _ [] rfl trivial ?_
    have e3_0 : F_5bestNow w be bm = bm := by rw [F_5bestNow, if_pos (show w = 0 from by omega)]
    exact AR.retI dc_X5_bestNow_19 rfl e3_0.symm rfl
def B_5keepPicks_4 (ga : Nat → Int32) (pi : Nat → Int32) (j4 : Nat) (x4_1 : Int32) : (Int32) := if (pi j4) = (-1) then (x4_1 + (nI (0))) else (x4_1 + (ga ((12 * j4) + (pi j4).toNatClampNeg)))
def L_5keepPicks_4 (ga : Nat → Int32) (pi : Nat → Int32) : Nat → (Int32)
  | 0 => nI (0)
  | j + 1 => B_5keepPicks_4 ga pi j (L_5keepPicks_4 ga pi  j)
def W_5keepPicks_50 (ga : Nat → Int32) (pi : Nat → Int32) (bm : Int32) : Nat → Nat → (Nat → Int32) → (Nat → Int32) × (Int32)
  | 0, j50, y50_be => if (L_5keepPicks_4 ga pi 4) ≤ bm then (y50_be, bm) else (y50_be, L_5keepPicks_4 ga pi 4)
  | f50 + 1, j50, y50_be => if (L_5keepPicks_4 ga pi 4) ≤ bm then if (L_5keepPicks_4 ga pi 4) ≤ bm then (y50_be, bm) else (y50_be, L_5keepPicks_4 ga pi 4) else W_5keepPicks_50 ga pi bm f50 (j50 + 1) (upd y50_be j50 (pi j50))
def F_5keepPicks_be (ga : Nat → Int32) (pi : Nat → Int32) (be : Nat → Int32) (bm : Int32) : Nat → Int32 := ((W_5keepPicks_50 ga pi bm 4 0 be).1)
def F_5keepPicks_bm (ga : Nat → Int32) (pi : Nat → Int32) (be : Nat → Int32) (bm : Int32) : Int32 := ((W_5keepPicks_50 ga pi bm 4 0 be).2)
theorem g_X5_keepPicks_0_4 : ab_oks M_X5_keepPicks [(0, .iconst 0, 1, 0, 0, 0, .int (nI (0))), (1, .istore_n 1, 1, 1, 0, 0, .null), (2, .iconst 0, 1, 0, 0, 0, .int (nI (0))), (3, .istore_n 2, 1, 2, 0, 0, .null)] = true := by decide +kernel
theorem g_X5_keepPicks_4_2 : ab_oks M_X5_keepPicks [(4, .iload_n 2, 1, 2, 0, 0, .null), (5, .iconst 4, 1, 0, 0, 0, .int (nI (4)))] = true := by decide +kernel
theorem dc_X5_keepPicks_6 : decode (AM.bytes M_X5_keepPicks) 6 = .ok (.if_icmp .ge 42, 3) := by decide +kernel
theorem g_X5_keepPicks_9_4 : ab_oks M_X5_keepPicks [(9, .iload_n 1, 1, 1, 0, 0, .null), (10, .aload_n 0, 1, 0, 0, 0, .null), (11, .getfield 34, 3, 5, 8, 938, .null), (14, .iload_n 2, 1, 2, 0, 0, .null)] = true := by decide +kernel
theorem ok_X5_keepPicks_15 : ab_ok M_X5_keepPicks (15, .iaload, 1, 0, 0, 0, .null) = true := by decide +kernel
theorem g_X5_keepPicks_16_1 : ab_oks M_X5_keepPicks [(16, .iconst (-1), 1, 0, 0, 0, .int (-1))] = true := by decide +kernel
theorem dc_X5_keepPicks_17 : decode (AM.bytes M_X5_keepPicks) 17 = .ok (.if_icmp .ne 7, 3) := by decide +kernel
theorem g_X5_keepPicks_24_8 : ab_oks M_X5_keepPicks [(24, .aload_n 0, 1, 0, 0, 0, .null), (25, .getfield 31, 3, 5, 7, 937, .null), (28, .bipush 12, 2, 0, 0, 0, .int (nI (12))), (30, .iload_n 2, 1, 2, 0, 0, .null), (31, .imul, 1, 0, 0, 0, .null), (32, .aload_n 0, 1, 0, 0, 0, .null), (33, .getfield 34, 3, 5, 8, 938, .null), (36, .iload_n 2, 1, 2, 0, 0, .null)] = true := by decide +kernel
theorem ok_X5_keepPicks_37 : ab_ok M_X5_keepPicks (37, .iaload, 1, 0, 0, 0, .null) = true := by decide +kernel
theorem g_X5_keepPicks_38_1 : ab_oks M_X5_keepPicks [(38, .iadd, 1, 0, 0, 0, .null)] = true := by decide +kernel
theorem ok_X5_keepPicks_39 : ab_ok M_X5_keepPicks (39, .iaload, 1, 0, 0, 0, .null) = true := by decide +kernel
theorem g_X5_keepPicks_40_4 : ab_oks M_X5_keepPicks [(40, .iadd, 1, 0, 0, 0, .null), (41, .istore_n 1, 1, 1, 0, 0, .null), (42, .iinc 2 1, 3, 2, 0, 0, .int (nI (1))), (45, .goto (-41), 3, 4, 0, 0, .null)] = true := by decide +kernel
theorem g_X5_keepPicks_20_6 : ab_oks M_X5_keepPicks [(20, .iconst 0, 1, 0, 0, 0, .int (nI (0))), (21, .goto 19, 3, 40, 0, 0, .null), (40, .iadd, 1, 0, 0, 0, .null), (41, .istore_n 1, 1, 1, 0, 0, .null), (42, .iinc 2 1, 3, 2, 0, 0, .int (nI (1))), (45, .goto (-41), 3, 4, 0, 0, .null)] = true := by decide +kernel
theorem g_X5_keepPicks_48_2 : ab_oks M_X5_keepPicks [(48, .iconst 0, 1, 0, 0, 0, .int (nI (0))), (49, .istore_n 2, 1, 2, 0, 0, .null)] = true := by decide +kernel
theorem g_X5_keepPicks_50_2 : ab_oks M_X5_keepPicks [(50, .iload_n 2, 1, 2, 0, 0, .null), (51, .iconst 4, 1, 0, 0, 0, .int (nI (4)))] = true := by decide +kernel
theorem dc_X5_keepPicks_52 : decode (AM.bytes M_X5_keepPicks) 52 = .ok (.if_icmp .ge 29, 3) := by decide +kernel
theorem g_X5_keepPicks_81_4 : ab_oks M_X5_keepPicks [(81, .aload_n 0, 1, 0, 0, 0, .null), (82, .iload_n 1, 1, 1, 0, 0, .null), (83, .aload_n 0, 1, 0, 0, 0, .null), (84, .getfield 212, 3, 5, 10, 940, .null)] = true := by decide +kernel
theorem dc_X5_keepPicks_87 : decode (AM.bytes M_X5_keepPicks) 87 = .ok (.if_icmp .le 7, 3) := by decide +kernel
theorem g_X5_keepPicks_94_3 : ab_oks M_X5_keepPicks [(94, .aload_n 0, 1, 0, 0, 0, .null), (95, .getfield 212, 3, 5, 10, 940, .null), (98, .putfield 212, 3, 5, 10, 940, .null)] = true := by decide +kernel
theorem dc_X5_keepPicks_101 : decode (AM.bytes M_X5_keepPicks) 101 = .ok (.return_, 1) := by decide +kernel
theorem g_X5_keepPicks_90_3 : ab_oks M_X5_keepPicks [(90, .iload_n 1, 1, 1, 0, 0, .null), (91, .goto 7, 3, 98, 0, 0, .null), (98, .putfield 212, 3, 5, 10, 940, .null)] = true := by decide +kernel
theorem g_X5_keepPicks_55_3 : ab_oks M_X5_keepPicks [(55, .iload_n 1, 1, 1, 0, 0, .null), (56, .aload_n 0, 1, 0, 0, 0, .null), (57, .getfield 212, 3, 5, 10, 940, .null)] = true := by decide +kernel
theorem dc_X5_keepPicks_60 : decode (AM.bytes M_X5_keepPicks) 60 = .ok (.if_icmp .le 21, 3) := by decide +kernel
theorem g_X5_keepPicks_63_6 : ab_oks M_X5_keepPicks [(63, .aload_n 0, 1, 0, 0, 0, .null), (64, .getfield 37, 3, 5, 9, 939, .null), (67, .iload_n 2, 1, 2, 0, 0, .null), (68, .aload_n 0, 1, 0, 0, 0, .null), (69, .getfield 34, 3, 5, 8, 938, .null), (72, .iload_n 2, 1, 2, 0, 0, .null)] = true := by decide +kernel
theorem ok_X5_keepPicks_73 : ab_ok M_X5_keepPicks (73, .iaload, 1, 0, 0, 0, .null) = true := by decide +kernel
theorem ok_X5_keepPicks_74 : ab_ok M_X5_keepPicks (74, .iastore, 1, 0, 0, 0, .null) = true := by decide +kernel
theorem g_X5_keepPicks_75_2 : ab_oks M_X5_keepPicks [(75, .iinc 2 1, 3, 2, 0, 0, .int (nI (1))), (78, .goto (-28), 3, 50, 0, 0, .null)] = true := by decide +kernel
set_option maxRecDepth 100000 in
set_option maxHeartbeats 4000000 in
theorem s_5keepPicks {E : AE} (d : Nat)  {o0 a0 t0 p0 u0 l0 : List AC} {z sa ro te fr to un ga pi be : Nat → Int32} {bm en sta sv ln th : Int32} {hh : Int64} (hP : ∀ j, j < 4 → QI 12 (pi j)) : CT E M_X5_keepPicks d [.ref 16384] (hp o0 a0 t0 p0 (mo z sa ro te fr to un ga pi be bm en sta sv ln th hh) u0 l0) (.inl none) (hp o0 a0 t0 p0 (mo z sa ro te fr to un ga pi (F_5keepPicks_be ga pi be bm) (F_5keepPicks_bm ga pi be bm) en sta sv ln th hh) u0 l0) 0 0 := by
  refine CT.of (L := [some (.ref 16384), none, none]) rfl rfl ?_
  refine AR.run g_X5_keepPicks_0_4 4 [some (.ref 16384), some (.int (nI (0))), some (.int (nI (0)))] [] _ [] rfl trivial ?_
  refine AR.cast (L' := [some (.ref 16384), some (.int (L_5keepPicks_4 ga pi 0)), some (.int (nI (0)))]) (by first | rfl | (rw [L_5keepPicks_4])) rfl rfl (AR.loopN 4 (fun j4 => [some (.ref 16384), some (.int (L_5keepPicks_4 ga pi j4)), some (.int (nI (j4)))]) (fun j4 => (hp o0 a0 t0 p0 (mo z sa ro te fr to un ga pi be bm en sta sv ln th hh) u0 l0)) (fun j4 => True) (fun j4 hj4 hI4 ih4 => ?_) (fun hI4 => ?_) 0 (by omega) (by first | trivial | omega))
  · refine AR.run g_X5_keepPicks_4_2 6 [some (.ref 16384), some (.int (L_5keepPicks_4 ga pi j4)), some (.int (nI (j4)))] [.int (nI (4)), .int (nI (j4))] _ [] rfl trivial ?_
    refine AR.ge2N (tgt := 48) (a := j4) (b := 4) dc_X5_keepPicks_6 (by decide) (by first | rfl | (simp only [nI_add, pk_mul]; first | done | rfl)) (by first | rfl | (simp only [nI_add, pk_mul]; first | done | rfl)) (by omega) (by omega) (fun c6_1 => absurd c6_1 (by omega)) (fun c6_1 => ?_)
    refine AR.run g_X5_keepPicks_9_4 15 [some (.ref 16384), some (.int (L_5keepPicks_4 ga pi j4)), some (.int (nI (j4)))] [.int (nI (j4)), .ref 16393, .int (L_5keepPicks_4 ga pi j4)] _ [] rfl trivial ?_
    refine AR.ald (n := 0) (e := j4) ok_X5_keepPicks_15 (by first | rfl | (simp only [nI_add, pk_mul]; first | done | rfl)) rfl (by omega) (by first | decide | omega) ?_
    refine AR.run g_X5_keepPicks_16_1 17 [some (.ref 16384), some (.int (L_5keepPicks_4 ga pi j4)), some (.int (nI (j4)))] [.int (-1), .int (pi j4), .int (L_5keepPicks_4 ga pi j4)] _ [] rfl trivial ?_
    refine AR.ne2 (tgt := 24) dc_X5_keepPicks_17 (by decide) (fun c17_2 => ?_) (fun c17_2 => ?_)
    · refine AR.run g_X5_keepPicks_24_8 37 [some (.ref 16384), some (.int (L_5keepPicks_4 ga pi j4)), some (.int (nI (j4)))] [.int (nI (j4)), .ref 16393, .int ((nI (12)) * (nI (j4))), .ref 16392, .int (L_5keepPicks_4 ga pi j4)] _ [] rfl trivial ?_
      refine AR.ald (n := 0) (e := j4) ok_X5_keepPicks_37 (by first | rfl | (simp only [nI_add, pk_mul]; first | done | rfl)) rfl (by omega) (by first | decide | omega) ?_
      obtain ⟨hx9, hy9⟩ := QI_get (by omega) (hP _ (by omega)) (by assumption)
      refine AR.cast (st' := [.int (nI ((pi j4).toNatClampNeg)), .int ((nI (12)) * (nI (j4))), .ref 16392, .int (L_5keepPicks_4 ga pi j4)]) rfl (by rw [← hx9]) rfl ?_
      refine AR.run g_X5_keepPicks_38_1 39 [some (.ref 16384), some (.int (L_5keepPicks_4 ga pi j4)), some (.int (nI (j4)))] [.int (((nI (12)) * (nI (j4))) + (nI ((pi j4).toNatClampNeg))), .ref 16392, .int (L_5keepPicks_4 ga pi j4)] _ [] rfl trivial ?_
      refine AR.ald (n := 0) (e := ((12 * j4) + (pi j4).toNatClampNeg)) ok_X5_keepPicks_39 (by first | rfl | (simp only [nI_add, pk_mul]; first | done | rfl)) rfl (by omega) (by first | decide | omega) ?_
      refine AR.run g_X5_keepPicks_40_4 4 [some (.ref 16384), some (.int ((L_5keepPicks_4 ga pi j4) + (ga ((12 * j4) + (pi j4).toNatClampNeg)))), some (.int ((nI (j4)) + (nI (1))))] [] _ [] rfl trivial ?_
      have e3 : L_5keepPicks_4 ga pi (j4 + 1) = ((L_5keepPicks_4 ga pi j4) + (ga ((12 * j4) + (pi j4).toNatClampNeg))) := by rw [L_5keepPicks_4, B_5keepPicks_4, if_neg c17_2]
      exact AR.cast (L' := [some (.ref 16384), some (.int (L_5keepPicks_4 ga pi (j4 + 1))), some (.int (nI (j4 + 1)))]) (by rw [e3, nI_add]) rfl rfl (ih4 (by first | trivial | omega))
    · refine AR.run g_X5_keepPicks_20_6 4 [some (.ref 16384), some (.int ((L_5keepPicks_4 ga pi j4) + (nI (0)))), some (.int ((nI (j4)) + (nI (1))))] [] _ [] rfl trivial ?_
      have e4 : L_5keepPicks_4 ga pi (j4 + 1) = ((L_5keepPicks_4 ga pi j4) + (nI (0))) := by rw [L_5keepPicks_4, B_5keepPicks_4, if_pos c17_2]
      exact AR.cast (L' := [some (.ref 16384), some (.int (L_5keepPicks_4 ga pi (j4 + 1))), some (.int (nI (j4 + 1)))]) (by rw [e4, nI_add]) rfl rfl (ih4 (by first | trivial | omega))
  · refine AR.run g_X5_keepPicks_4_2 6 [some (.ref 16384), some (.int (L_5keepPicks_4 ga pi 4)), some (.int (nI (4)))] [.int (nI (4)), .int (nI (4))] _ [] rfl trivial ?_
    refine AR.ge2N (tgt := 48) (a := 4) (b := 4) dc_X5_keepPicks_6 (by decide) (by first | rfl | (simp only [nI_add, pk_mul]; first | done | rfl)) (by first | rfl | (simp only [nI_add, pk_mul]; first | done | rfl)) (by omega) (by omega) (fun c6_5 => ?_) (fun c6_5 => absurd c6_5 (by omega))
    refine AR.run g_X5_keepPicks_48_2 50 [some (.ref 16384), some (.int (L_5keepPicks_4 ga pi 4)), some (.int (nI (0)))] [] _ [] rfl trivial ?_
    have hW : ∀ (f50 j50 : Nat) (y50_be : Nat → Int32), j50 + f50 = 4 → AR E M_X5_keepPicks d 50 [some (.ref 16384), some (.int (L_5keepPicks_4 ga pi 4)), some (.int (nI (j50)))] [] (hp o0 a0 t0 p0 (mo z sa ro te fr to un ga pi y50_be bm en sta sv ln th hh) u0 l0) (.inl none) (hp o0 a0 t0 p0 (mo z sa ro te fr to un ga pi ((W_5keepPicks_50 ga pi bm f50 j50 y50_be).1) ((W_5keepPicks_50 ga pi bm f50 j50 y50_be).2) en sta sv ln th hh) u0 l0) 0 0 := by
      intro f50
      induction f50 with
      | zero => 
        intro j50 y50_be hj50
        refine AR.run g_X5_keepPicks_50_2 52 [some (.ref 16384), some (.int (L_5keepPicks_4 ga pi 4)), some (.int (nI (j50)))] [.int (nI (4)), .int (nI (j50))] _ [] rfl trivial ?_
        refine AR.ge2N (tgt := 81) (a := j50) (b := 4) dc_X5_keepPicks_52 (by decide) (by first | rfl | (simp only [nI_add, pk_mul]; first | done | rfl)) (by first | rfl | (simp only [nI_add, pk_mul]; first | done | rfl)) (by omega) (by omega) (fun c52_6 => ?_) (fun c52_6 => absurd c52_6 (by omega))
        refine AR.run g_X5_keepPicks_81_4 87 [some (.ref 16384), some (.int (L_5keepPicks_4 ga pi 4)), some (.int (nI (j50)))] [.int (bm), .int (L_5keepPicks_4 ga pi 4), .ref 16384] _ [] rfl trivial ?_
        refine AR.le2 (tgt := 94) dc_X5_keepPicks_87 (by decide) (fun c87_7 => ?_) (fun c87_7 => ?_)
        · refine AR.run g_X5_keepPicks_94_3 101 [some (.ref 16384), some (.int (L_5keepPicks_4 ga pi 4)), some (.int (nI (j50)))] [] _ [] rfl trivial ?_
          have e8 : W_5keepPicks_50 ga pi bm 0 j50 y50_be = (y50_be, bm) := by rw [W_5keepPicks_50, if_pos c87_7]
          rw [e8]
          exact AR.retV dc_X5_keepPicks_101 rfl rfl
        · refine AR.run g_X5_keepPicks_90_3 101 [some (.ref 16384), some (.int (L_5keepPicks_4 ga pi 4)), some (.int (nI (j50)))] [] (hp o0 a0 t0 p0 (mo z sa ro te fr to un ga pi y50_be (L_5keepPicks_4 ga pi 4) en sta sv ln th hh) u0 l0) [] rfl trivial ?_
          have e9 : W_5keepPicks_50 ga pi bm 0 j50 y50_be = (y50_be, L_5keepPicks_4 ga pi 4) := by rw [W_5keepPicks_50, if_neg c87_7]
          rw [e9]
          exact AR.retV dc_X5_keepPicks_101 rfl rfl
      | succ f50 ih50 => 
        intro j50 y50_be hj50
        refine AR.run g_X5_keepPicks_50_2 52 [some (.ref 16384), some (.int (L_5keepPicks_4 ga pi 4)), some (.int (nI (j50)))] [.int (nI (4)), .int (nI (j50))] _ [] rfl trivial ?_
        refine AR.ge2N (tgt := 81) (a := j50) (b := 4) dc_X5_keepPicks_52 (by decide) (by first | rfl | (simp only [nI_add, pk_mul]; first | done | rfl)) (by first | rfl | (simp only [nI_add, pk_mul]; first | done | rfl)) (by omega) (by omega) (fun c52_10 => absurd c52_10 (by omega)) (fun c52_10 => ?_)
        refine AR.run g_X5_keepPicks_55_3 60 [some (.ref 16384), some (.int (L_5keepPicks_4 ga pi 4)), some (.int (nI (j50)))] [.int (bm), .int (L_5keepPicks_4 ga pi 4)] _ [] rfl trivial ?_
        refine AR.le2 (tgt := 81) dc_X5_keepPicks_60 (by decide) (fun c60_11 => ?_) (fun c60_11 => ?_)
        · refine AR.run g_X5_keepPicks_81_4 87 [some (.ref 16384), some (.int (L_5keepPicks_4 ga pi 4)), some (.int (nI (j50)))] [.int (bm), .int (L_5keepPicks_4 ga pi 4), .ref 16384] _ [] rfl trivial ?_
          refine AR.le2 (tgt := 94) dc_X5_keepPicks_87 (by decide) (fun c87_12 => ?_) (fun c87_12 => ?_)
          · refine AR.run g_X5_keepPicks_94_3 101 [some (.ref 16384), some (.int (L_5keepPicks_4 ga pi 4)), some (.int (nI (j50)))] [] _ [] rfl trivial ?_
            have e13 : W_5keepPicks_50 ga pi bm (f50 + 1) j50 y50_be = (y50_be, bm) := by rw [W_5keepPicks_50, if_pos c60_11, if_pos c87_12]
            rw [e13]
            exact AR.retV dc_X5_keepPicks_101 rfl rfl
          · refine AR.run g_X5_keepPicks_90_3 101 [some (.ref 16384), some (.int (L_5keepPicks_4 ga pi 4)), some (.int (nI (j50)))] [] (hp o0 a0 t0 p0 (mo z sa ro te fr to un ga pi y50_be (L_5keepPicks_4 ga pi 4) en sta sv ln th hh) u0 l0) [] rfl trivial ?_
            have e14 : W_5keepPicks_50 ga pi bm (f50 + 1) j50 y50_be = (y50_be, L_5keepPicks_4 ga pi 4) := by rw [W_5keepPicks_50, if_pos c60_11, if_neg c87_12]
            rw [e14]
            exact AR.retV dc_X5_keepPicks_101 rfl rfl
        · refine AR.run g_X5_keepPicks_63_6 73 [some (.ref 16384), some (.int (L_5keepPicks_4 ga pi 4)), some (.int (nI (j50)))] [.int (nI (j50)), .ref 16393, .int (nI (j50)), .ref 16394] _ [] rfl trivial ?_
          refine AR.ald (n := 0) (e := j50) ok_X5_keepPicks_73 (by first | rfl | (simp only [nI_add, pk_mul]; first | done | rfl)) rfl (by omega) (by first | decide | omega) ?_
          refine AR.ast (n := 0) (e := j50) (h1 := (hp o0 a0 t0 p0 (mo z sa ro te fr to un ga pi (upd y50_be j50 (pi j50)) bm en sta sv ln th hh) u0 l0)) ok_X5_keepPicks_74 (by first | rfl | (simp only [nI_add, pk_mul]; first | done | rfl)) rfl rfl (by omega) (by decide) rfl ?_
          refine AR.run g_X5_keepPicks_75_2 50 [some (.ref 16384), some (.int (L_5keepPicks_4 ga pi 4)), some (.int ((nI (j50)) + (nI (1))))] [] _ [] rfl trivial ?_
          have e15 : W_5keepPicks_50 ga pi bm (f50 + 1) j50 y50_be = W_5keepPicks_50 ga pi bm f50 (j50 + 1) (upd y50_be j50 (pi j50)) := by rw [W_5keepPicks_50, if_neg c60_11]
          rw [e15]
          exact AR.cast (L' := [some (.ref 16384), some (.int (L_5keepPicks_4 ga pi 4)), some (.int (nI (j50 + 1)))]) (by first | rfl | rw [nI_add]) rfl rfl (ih50 (j50 + 1) (upd y50_be j50 (pi j50)) (by omega) )
    exact AR.end' (by first | rfl | (simp only [F_5keepPicks_be, F_5keepPicks_bm])) (by first | rfl | (simp only [F_5keepPicks_be, F_5keepPicks_bm])) (AR.cast rfl rfl rfl (hW 4 0 be (by omega)))
def F_5openNow (nv : Nat) (nc : Nat) (z : Nat → Int32) (sv : Int32) : UInt64 := if (F_5counted 6 nv nc z sv) = 0 then (FP.dconst0) else (FP.ddiv (FP.i2d (F_5counted 9 nv nc z sv)) (FP.i2d (F_5counted 6 nv nc z sv)))
theorem g_X5_openNow_0_2 : ab_oks M_X5_openNow [(0, .aload_n 0, 1, 0, 0, 0, .null), (1, .bipush 6, 2, 0, 0, 0, .int (nI (6)))] = true := by decide +kernel
theorem lk_5_179 : ab_lkV "LeafCradlesModel" 179 M_X5_counted 1 [1213, 1215, 68, 97, 1216] = true := by decide +kernel
theorem dc_X5_openNow_3 : decode (AM.bytes M_X5_openNow) 3 = .ok (.invokevirtual 179, 3) := by decide +kernel
theorem g_X5_openNow_6_2 : ab_oks M_X5_openNow [(6, .istore_n 1, 1, 1, 0, 0, .null), (7, .iload_n 1, 1, 1, 0, 0, .null)] = true := by decide +kernel
theorem dc_X5_openNow_8 : decode (AM.bytes M_X5_openNow) 8 = .ok (.ifCond .ne 7, 3) := by decide +kernel
theorem g_X5_openNow_15_2 : ab_oks M_X5_openNow [(15, .aload_n 0, 1, 0, 0, 0, .null), (16, .bipush 9, 2, 0, 0, 0, .int (nI (9)))] = true := by decide +kernel
theorem dc_X5_openNow_18 : decode (AM.bytes M_X5_openNow) 18 = .ok (.invokevirtual 179, 3) := by decide +kernel
theorem g_X5_openNow_21_3 : ab_oks M_X5_openNow [(21, .i2d, 1, 0, 0, 0, .null), (22, .iload_n 1, 1, 1, 0, 0, .null), (23, .i2d, 1, 0, 0, 0, .null)] = true := by decide +kernel
theorem g_X5_openNow_24_1 : ab_oks M_X5_openNow [(24, .ddiv, 1, 0, 0, 0, .null)] = true := by decide +kernel
theorem dc_X5_openNow_25 : decode (AM.bytes M_X5_openNow) 25 = .ok (.dreturn, 1) := by decide +kernel
theorem g_X5_openNow_11_2 : ab_oks M_X5_openNow [(11, .dconst 0, 1, 0, 0, 0, .double (FP.dconst0)), (12, .goto 13, 3, 25, 0, 0, .null)] = true := by decide +kernel
set_option maxRecDepth 100000 in
set_option maxHeartbeats 4000000 in
theorem s_5openNow {E : AE} (d : Nat) {nv : Nat} {nc : Nat} {nr : Nat} {ne : Nat}  {o0 a0 t0 p0 u0 l0 : List AC} {z sa ro te fr to un ga pi be : Nat → Int32} {bm en sta sv ln th : Int32} {hh : Int64} (hZ : ZI z nv nc nr ne) (hnan : vf_n64 (FP.ddiv (FP.i2d (L_5overAll_4 9 z nv)) (FP.i2d (L_5overAll_4 2 z nv)))) : CT E M_X5_openNow (d + 6) [.ref 16384] (hp o0 a0 t0 p0 (mo z sa ro te fr to un ga pi be bm en sta sv ln th hh) u0 l0) (.inl (some (.double (F_5openNow nv nc z sv)))) (hp o0 a0 t0 p0 (mo z sa ro te fr to un ga pi be bm en sta sv ln th hh) u0 l0) 0 0 := by
  obtain ⟨⟨hnv, h12⟩, ⟨hnc, h4⟩, ⟨hnr, h3⟩, ⟨hne, h60⟩, hLV⟩ := id hZ
  refine CT.of (L := [some (.ref 16384), none]) rfl rfl ?_
  refine AR.run g_X5_openNow_0_2 3 [some (.ref 16384), none] [.int (nI (6)), .ref 16384] _ [] rfl trivial ?_
  refine AR.callV1 (16384) [.int (nI (6))] [] lk_5_179 dc_X5_openNow_3 rfl rfl (s_5counted _ 6 (by assumption) (by omega)) (by first | rfl | (simp only [nI_add, pk_mul]; first | done | rfl)) rfl ?_
  refine AR.run g_X5_openNow_6_2 8 [some (.ref 16384), some (.int (F_5counted 6 nv nc z sv))] [.int (F_5counted 6 nv nc z sv)] _ [] rfl trivial ?_
  refine AR.ne (tgt := 15) dc_X5_openNow_8 (by decide) (fun c8_1 => ?_) (fun c8_1 => ?_)
  · refine AR.run g_X5_openNow_15_2 18 [some (.ref 16384), some (.int (F_5counted 6 nv nc z sv))] [.int (nI (9)), .ref 16384] _ [] rfl trivial ?_
    refine AR.callV1 (16384) [.int (nI (9))] [] lk_5_179 dc_X5_openNow_18 rfl rfl (s_5counted _ 9 (by assumption) (by omega)) (by first | rfl | (simp only [nI_add, pk_mul]; first | done | rfl)) rfl ?_
    refine AR.run g_X5_openNow_21_3 24 [some (.ref 16384), some (.int (F_5counted 6 nv nc z sv))] [.double (FP.i2d (F_5counted 6 nv nc z sv)), .double (FP.i2d (F_5counted 9 nv nc z sv))] _ [] rfl trivial ?_
    refine AR.run g_X5_openNow_24_1 25 [some (.ref 16384), some (.int (F_5counted 6 nv nc z sv))] [.double (FP.ddiv (FP.i2d (F_5counted 9 nv nc z sv)) (FP.i2d (F_5counted 6 nv nc z sv)))] _ [vf_n64 (FP.ddiv (FP.i2d (F_5counted 9 nv nc z sv)) (FP.i2d (F_5counted 6 nv nc z sv)))] rfl (by assumption) ?_
    have e2_0 : F_5openNow nv nc z sv = (FP.ddiv (FP.i2d (F_5counted 9 nv nc z sv)) (FP.i2d (F_5counted 6 nv nc z sv))) := by rw [F_5openNow, if_neg c8_1]
    exact AR.retD dc_X5_openNow_25 rfl e2_0.symm rfl
  · refine AR.run g_X5_openNow_11_2 25 [some (.ref 16384), some (.int (F_5counted 6 nv nc z sv))] [.double (FP.dconst0)] _ [] rfl trivial ?_
    have e3_0 : F_5openNow nv nc z sv = (FP.dconst0) := by rw [F_5openNow, if_pos c8_1]
    exact AR.retD dc_X5_openNow_25 rfl e3_0.symm rfl
def F_5mix_hh (v : Int64) (hh : Int64) : Int64 := ((31 * hh) + v)
theorem g_X5_mix_0_8 : ab_oks M_X5_mix [(0, .aload_n 0, 1, 0, 0, 0, .null), (1, .ldc2_w 235, 3, 0, 0, 1326, .long (31)), (4, .aload_n 0, 1, 0, 0, 0, .null), (5, .getfield 237, 3, 5, 16, 946, .null), (8, .lmul, 1, 0, 0, 0, .null), (9, .lload_n 1, 1, 1, 0, 0, .null), (10, .ladd, 1, 0, 0, 0, .null), (11, .putfield 237, 3, 5, 16, 946, .null)] = true := by decide +kernel
theorem dc_X5_mix_14 : decode (AM.bytes M_X5_mix) 14 = .ok (.return_, 1) := by decide +kernel
set_option maxRecDepth 100000 in
set_option maxHeartbeats 4000000 in
theorem s_5mix {E : AE} (d : Nat) (v : Int64)  {o0 a0 t0 p0 u0 l0 : List AC} {z sa ro te fr to un ga pi be : Nat → Int32} {bm en sta sv ln th : Int32} {hh : Int64} : CT E M_X5_mix d [.ref 16384, .long (v)] (hp o0 a0 t0 p0 (mo z sa ro te fr to un ga pi be bm en sta sv ln th hh) u0 l0) (.inl none) (hp o0 a0 t0 p0 (mo z sa ro te fr to un ga pi be bm en sta sv ln th (F_5mix_hh v hh)) u0 l0) 0 0 := by
  refine CT.of (L := [some (.ref 16384), some (.long (v)), none]) rfl rfl ?_
  refine AR.run g_X5_mix_0_8 14 [some (.ref 16384), some (.long (v)), none] [] (hp o0 a0 t0 p0 (mo z sa ro te fr to un ga pi be bm en sta sv ln th ((31 * hh) + v)) u0 l0) [] rfl trivial ?_
  have e1_0 : F_5mix_hh v hh = ((31 * hh) + v) := by rw [F_5mix_hh]
  exact AR.retV dc_X5_mix_14 rfl (by rw [e1_0])
def B_5mixVolume_2 (v : Nat) (z : Nat → Int32) (j2 : Nat) (y2_hh : Int64) : (Int64) := (F_5mix_hh ((F_5volumeNow v j2 z).toInt64) y2_hh)
def L_5mixVolume_2 (v : Nat) (z : Nat → Int32) (hh : Int64) : Nat → (Int64)
  | 0 => hh
  | j + 1 => B_5mixVolume_2 v z j (L_5mixVolume_2 v z hh  j)
def B_5mixVolume_27 (v : Nat) (z : Nat → Int32) (j27 : Nat) (y27_hh : Int64) : (Int64) := (F_5mix_hh ((F_5leafNow v (j27 / 4) (j27 % 4) z).toInt64) y27_hh)
def L_5mixVolume_27 (v : Nat) (z : Nat → Int32) (hh : Int64) : Nat → (Int64)
  | 0 => L_5mixVolume_2 v z hh 12
  | j + 1 => B_5mixVolume_27 v z j (L_5mixVolume_27 v z hh  j)
def F_5mixVolume_hh (v : Nat) (nr : Nat) (ne : Nat) (z : Nat → Int32) (hh : Int64) : Int64 := (F_5mix_hh ((L_5quickestNow_4 v z nr).toInt64) (F_5mix_hh ((L_5whereNow_5 (nI (v)) (z 3) z ne).toInt64) (L_5mixVolume_27 v z hh (4 * lv z v))))
theorem g_X5_mixVolume_0_2 : ab_oks M_X5_mixVolume [(0, .iconst 0, 1, 0, 0, 0, .int (nI (0))), (1, .istore_n 2, 1, 2, 0, 0, .null)] = true := by decide +kernel
theorem g_X5_mixVolume_2_2 : ab_oks M_X5_mixVolume [(2, .iload_n 2, 1, 2, 0, 0, .null), (3, .bipush 12, 2, 0, 0, 0, .int (nI (12)))] = true := by decide +kernel
theorem dc_X5_mixVolume_5 : decode (AM.bytes M_X5_mixVolume) 5 = .ok (.if_icmp .ge 20, 3) := by decide +kernel
theorem g_X5_mixVolume_8_4 : ab_oks M_X5_mixVolume [(8, .aload_n 0, 1, 0, 0, 0, .null), (9, .aload_n 0, 1, 0, 0, 0, .null), (10, .iload_n 1, 1, 1, 0, 0, .null), (11, .iload_n 2, 1, 2, 0, 0, .null)] = true := by decide +kernel
theorem dc_X5_mixVolume_12 : decode (AM.bytes M_X5_mixVolume) 12 = .ok (.invokevirtual 161, 3) := by decide +kernel
theorem g_X5_mixVolume_15_1 : ab_oks M_X5_mixVolume [(15, .i2l, 1, 0, 0, 0, .null)] = true := by decide +kernel
theorem lk_5_241 : ab_lkV "LeafCradlesModel" 241 M_X5_mix 1 [1322, 1324, 87, 97, 1325] = true := by decide +kernel
theorem dc_X5_mixVolume_16 : decode (AM.bytes M_X5_mixVolume) 16 = .ok (.invokevirtual 241, 3) := by decide +kernel
theorem g_X5_mixVolume_19_2 : ab_oks M_X5_mixVolume [(19, .iinc 2 1, 3, 2, 0, 0, .int (nI (1))), (22, .goto (-20), 3, 2, 0, 0, .null)] = true := by decide +kernel
theorem g_X5_mixVolume_25_2 : ab_oks M_X5_mixVolume [(25, .iconst 0, 1, 0, 0, 0, .int (nI (0))), (26, .istore_n 2, 1, 2, 0, 0, .null)] = true := by decide +kernel
theorem g_X5_mixVolume_27_5 : ab_oks M_X5_mixVolume [(27, .iload_n 2, 1, 2, 0, 0, .null), (28, .iconst 4, 1, 0, 0, 0, .int (nI (4))), (29, .aload_n 0, 1, 0, 0, 0, .null), (30, .iload_n 1, 1, 1, 0, 0, .null), (31, .iconst 2, 1, 0, 0, 0, .int (nI (2)))] = true := by decide +kernel
theorem dc_X5_mixVolume_32 : decode (AM.bytes M_X5_mixVolume) 32 = .ok (.invokevirtual 62, 3) := by decide +kernel
theorem g_X5_mixVolume_35_1 : ab_oks M_X5_mixVolume [(35, .imul, 1, 0, 0, 0, .null)] = true := by decide +kernel
theorem dc_X5_mixVolume_36 : decode (AM.bytes M_X5_mixVolume) 36 = .ok (.if_icmp .ge 25, 3) := by decide +kernel
theorem g_X5_mixVolume_39_5 : ab_oks M_X5_mixVolume [(39, .aload_n 0, 1, 0, 0, 0, .null), (40, .aload_n 0, 1, 0, 0, 0, .null), (41, .iload_n 1, 1, 1, 0, 0, .null), (42, .iload_n 2, 1, 2, 0, 0, .null), (43, .iconst 4, 1, 0, 0, 0, .int (nI (4)))] = true := by decide +kernel
theorem g_X5_mixVolume_44_1 : ab_oks M_X5_mixVolume [(44, .idiv, 1, 0, 0, 0, .null)] = true := by decide +kernel
theorem g_X5_mixVolume_45_2 : ab_oks M_X5_mixVolume [(45, .iload_n 2, 1, 2, 0, 0, .null), (46, .iconst 4, 1, 0, 0, 0, .int (nI (4)))] = true := by decide +kernel
theorem g_X5_mixVolume_47_1 : ab_oks M_X5_mixVolume [(47, .irem, 1, 0, 0, 0, .null)] = true := by decide +kernel
theorem lk_5_164 : ab_lkV "LeafCradlesModel" 164 M_X5_leafNow 3 [1181, 1183, 65, 97, 1184] = true := by decide +kernel
theorem dc_X5_mixVolume_48 : decode (AM.bytes M_X5_mixVolume) 48 = .ok (.invokevirtual 164, 3) := by decide +kernel
theorem g_X5_mixVolume_51_1 : ab_oks M_X5_mixVolume [(51, .i2l, 1, 0, 0, 0, .null)] = true := by decide +kernel
theorem dc_X5_mixVolume_52 : decode (AM.bytes M_X5_mixVolume) 52 = .ok (.invokevirtual 241, 3) := by decide +kernel
theorem g_X5_mixVolume_55_2 : ab_oks M_X5_mixVolume [(55, .iinc 2 1, 3, 2, 0, 0, .int (nI (1))), (58, .goto (-31), 3, 27, 0, 0, .null)] = true := by decide +kernel
theorem g_X5_mixVolume_61_6 : ab_oks M_X5_mixVolume [(61, .aload_n 0, 1, 0, 0, 0, .null), (62, .aload_n 0, 1, 0, 0, 0, .null), (63, .iload_n 1, 1, 1, 0, 0, .null), (64, .aload_n 0, 1, 0, 0, 0, .null), (65, .getfield 7, 3, 5, 0, 930, .null), (68, .iconst 3, 1, 0, 0, 0, .int (nI (3)))] = true := by decide +kernel
theorem ok_X5_mixVolume_69 : ab_ok M_X5_mixVolume (69, .iaload, 1, 0, 0, 0, .null) = true := by decide +kernel
theorem lk_5_170 : ab_lkV "LeafCradlesModel" 170 M_X5_whereNow 2 [1205, 1207, 67, 97, 1208] = true := by decide +kernel
theorem dc_X5_mixVolume_70 : decode (AM.bytes M_X5_mixVolume) 70 = .ok (.invokevirtual 170, 3) := by decide +kernel
theorem g_X5_mixVolume_73_1 : ab_oks M_X5_mixVolume [(73, .i2l, 1, 0, 0, 0, .null)] = true := by decide +kernel
theorem dc_X5_mixVolume_74 : decode (AM.bytes M_X5_mixVolume) 74 = .ok (.invokevirtual 241, 3) := by decide +kernel
theorem g_X5_mixVolume_77_3 : ab_oks M_X5_mixVolume [(77, .aload_n 0, 1, 0, 0, 0, .null), (78, .aload_n 0, 1, 0, 0, 0, .null), (79, .iload_n 1, 1, 1, 0, 0, .null)] = true := by decide +kernel
theorem lk_5_200 : ab_lkV "LeafCradlesModel" 200 M_X5_quickestNow 1 [1269, 1271, 77, 97, 1272] = true := by decide +kernel
theorem dc_X5_mixVolume_80 : decode (AM.bytes M_X5_mixVolume) 80 = .ok (.invokevirtual 200, 3) := by decide +kernel
theorem g_X5_mixVolume_83_1 : ab_oks M_X5_mixVolume [(83, .i2l, 1, 0, 0, 0, .null)] = true := by decide +kernel
theorem dc_X5_mixVolume_84 : decode (AM.bytes M_X5_mixVolume) 84 = .ok (.invokevirtual 241, 3) := by decide +kernel
theorem dc_X5_mixVolume_87 : decode (AM.bytes M_X5_mixVolume) 87 = .ok (.return_, 1) := by decide +kernel
set_option maxRecDepth 100000 in
set_option maxHeartbeats 4000000 in
theorem s_5mixVolume {E : AE} (d : Nat) (v : Nat) {nv : Nat} {nc : Nat} {nr : Nat} {ne : Nat}  {o0 a0 t0 p0 u0 l0 : List AC} {z sa ro te fr to un ga pi be : Nat → Int32} {bm en sta sv ln th : Int32} {hh : Int64} (hZ : ZI z nv nc nr ne) (hv : v < nv) : CT E M_X5_mixVolume (d + 4) [.ref 16384, .int (nI (v))] (hp o0 a0 t0 p0 (mo z sa ro te fr to un ga pi be bm en sta sv ln th hh) u0 l0) (.inl none) (hp o0 a0 t0 p0 (mo z sa ro te fr to un ga pi be bm en sta sv ln th (F_5mixVolume_hh v nr ne z hh)) u0 l0) 0 0 := by
  obtain ⟨⟨hnv, h12⟩, ⟨hnc, h4⟩, ⟨hnr, h3⟩, ⟨hne, h60⟩, hLV⟩ := id hZ
  have hl := (hLV v hv).1
  have h40 := (hLV v hv).2
  refine CT.of (L := [some (.ref 16384), some (.int (nI (v))), none]) rfl rfl ?_
  refine AR.run g_X5_mixVolume_0_2 2 [some (.ref 16384), some (.int (nI (v))), some (.int (nI (0)))] [] _ [] rfl trivial ?_
  refine AR.cast (L' := [some (.ref 16384), some (.int (nI (v))), some (.int (nI (0)))]) (by first | rfl | (rw [L_5mixVolume_2])) rfl (by first | rfl | (rw [L_5mixVolume_2])) (AR.loopN 12 (fun j2 => [some (.ref 16384), some (.int (nI (v))), some (.int (nI (j2)))]) (fun j2 => (hp o0 a0 t0 p0 (mo z sa ro te fr to un ga pi be bm en sta sv ln th (L_5mixVolume_2 v z hh j2)) u0 l0)) (fun j2 => True) (fun j2 hj2 hI2 ih2 => ?_) (fun hI2 => ?_) 0 (by omega) (by first | trivial | omega))
  · refine AR.run g_X5_mixVolume_2_2 5 [some (.ref 16384), some (.int (nI (v))), some (.int (nI (j2)))] [.int (nI (12)), .int (nI (j2))] _ [] rfl trivial ?_
    refine AR.ge2N (tgt := 25) (a := j2) (b := 12) dc_X5_mixVolume_5 (by decide) (by first | rfl | (simp only [nI_add, pk_mul]; first | done | rfl)) (by first | rfl | (simp only [nI_add, pk_mul]; first | done | rfl)) (by omega) (by omega) (fun c5_1 => absurd c5_1 (by omega)) (fun c5_1 => ?_)
    refine AR.run g_X5_mixVolume_8_4 12 [some (.ref 16384), some (.int (nI (v))), some (.int (nI (j2)))] [.int (nI (j2)), .int (nI (v)), .ref 16384, .ref 16384] _ [] rfl trivial ?_
    refine AR.callV1 (16384) [.int (nI (v)), .int (nI (j2))] [.ref 16384] lk_5_161 dc_X5_mixVolume_12 rfl rfl (s_5volumeNow _ v j2 (by omega) (by first | assumption | exact (hLV v (by omega)).1) (by first | assumption | exact (hLV v (by omega)).2) (by omega)) (by first | rfl | (simp only [nI_add, pk_mul]; first | done | rfl)) rfl ?_
    refine AR.run g_X5_mixVolume_15_1 16 [some (.ref 16384), some (.int (nI (v))), some (.int (nI (j2)))] [.long ((F_5volumeNow v j2 z).toInt64), .ref 16384] _ [] rfl trivial ?_
    refine AR.callV0 (16384) [.long ((F_5volumeNow v j2 z).toInt64)] [] lk_5_241 dc_X5_mixVolume_16 rfl rfl (s_5mix _ ((F_5volumeNow v j2 z).toInt64) ) (by first | rfl | (simp only [nI_add, pk_mul]; first | done | rfl)) rfl ?_
    refine AR.run g_X5_mixVolume_19_2 2 [some (.ref 16384), some (.int (nI (v))), some (.int ((nI (j2)) + (nI (1))))] [] _ [] rfl trivial ?_
    have e2 : L_5mixVolume_2 v z hh (j2 + 1) = (F_5mix_hh ((F_5volumeNow v j2 z).toInt64) (L_5mixVolume_2 v z hh j2)) := by rw [L_5mixVolume_2, B_5mixVolume_2]
    exact AR.cast (L' := [some (.ref 16384), some (.int (nI (v))), some (.int (nI (j2 + 1)))]) (by first | rfl | rw [nI_add]) rfl (by rw [e2]) (ih2 (by first | trivial | omega))
  · refine AR.run g_X5_mixVolume_2_2 5 [some (.ref 16384), some (.int (nI (v))), some (.int (nI (12)))] [.int (nI (12)), .int (nI (12))] _ [] rfl trivial ?_
    refine AR.ge2N (tgt := 25) (a := 12) (b := 12) dc_X5_mixVolume_5 (by decide) (by first | rfl | (simp only [nI_add, pk_mul]; first | done | rfl)) (by first | rfl | (simp only [nI_add, pk_mul]; first | done | rfl)) (by omega) (by omega) (fun c5_3 => ?_) (fun c5_3 => absurd c5_3 (by omega))
    refine AR.run g_X5_mixVolume_25_2 27 [some (.ref 16384), some (.int (nI (v))), some (.int (nI (0)))] [] _ [] rfl trivial ?_
    refine AR.cast (L' := [some (.ref 16384), some (.int (nI (v))), some (.int (nI (0)))]) (by first | rfl | (rw [L_5mixVolume_27])) rfl (by first | rfl | (rw [L_5mixVolume_27])) (AR.loopN (4 * lv z v) (fun j27 => [some (.ref 16384), some (.int (nI (v))), some (.int (nI (j27)))]) (fun j27 => (hp o0 a0 t0 p0 (mo z sa ro te fr to un ga pi be bm en sta sv ln th (L_5mixVolume_27 v z hh j27)) u0 l0)) (fun j27 => True) (fun j27 hj27 hI27 ih27 => ?_) (fun hI27 => ?_) 0 (by omega) (by first | trivial | omega))
    · refine AR.run g_X5_mixVolume_27_5 32 [some (.ref 16384), some (.int (nI (v))), some (.int (nI (j27)))] [.int (nI (2)), .int (nI (v)), .ref 16384, .int (nI (4)), .int (nI (j27))] _ [] rfl trivial ?_
      refine AR.callV1 (16384) [.int (nI (v)), .int (nI (2))] [.int (nI (4)), .int (nI (j27))] lk_5_62 dc_X5_mixVolume_32 rfl rfl (s_ofVolume _ v 2 (by omega) (by omega)) (by first | rfl | (simp only [nI_add, pk_mul]; first | done | rfl)) rfl ?_
      refine AR.top (hLV v hv).1 ?_
      refine AR.run g_X5_mixVolume_35_1 36 [some (.ref 16384), some (.int (nI (v))), some (.int (nI (j27)))] [.int ((nI (4)) * (nI ((lv z v)))), .int (nI (j27))] _ [] rfl trivial ?_
      refine AR.ge2N (tgt := 61) (a := j27) (b := (4 * (lv z v))) dc_X5_mixVolume_36 (by decide) (by first | rfl | (simp only [nI_add, pk_mul]; first | done | rfl)) (by first | rfl | (simp only [nI_add, pk_mul]; first | done | rfl)) (by omega) (by omega) (fun c36_4 => absurd c36_4 (by omega)) (fun c36_4 => ?_)
      refine AR.run g_X5_mixVolume_39_5 44 [some (.ref 16384), some (.int (nI (v))), some (.int (nI (j27)))] [.int (nI (4)), .int (nI (j27)), .int (nI (v)), .ref 16384, .ref 16384] _ [] rfl trivial ?_
      refine AR.run g_X5_mixVolume_44_1 45 [some (.ref 16384), some (.int (nI (v))), some (.int (nI (j27)))] [.int ((nI (j27)) / (nI (4))), .int (nI (v)), .ref 16384, .ref 16384] _ [¬ (nI (4)) = 0] rfl (show ¬ ((nI (4)) = (0 : Int32)) from by decide) ?_
      refine AR.top (y := nI (j27 / 4)) (pk_div (by omega) (by decide) (by decide)) ?_
      refine AR.run g_X5_mixVolume_45_2 47 [some (.ref 16384), some (.int (nI (v))), some (.int (nI (j27)))] [.int (nI (4)), .int (nI (j27)), .int (nI ((j27 / 4))), .int (nI (v)), .ref 16384, .ref 16384] _ [] rfl trivial ?_
      refine AR.run g_X5_mixVolume_47_1 48 [some (.ref 16384), some (.int (nI (v))), some (.int (nI (j27)))] [.int ((nI (j27)) - (nI (j27)) / (nI (4)) * (nI (4))), .int (nI ((j27 / 4))), .int (nI (v)), .ref 16384, .ref 16384] _ [¬ (nI (4)) = 0] rfl (show ¬ ((nI (4)) = (0 : Int32)) from by decide) ?_
      refine AR.top (y := nI (j27 % 4)) (pk_rem (by omega) (by decide) (by decide)) ?_
      refine AR.callV1 (16384) [.int (nI (v)), .int (nI ((j27 / 4))), .int (nI ((j27 % 4)))] [.ref 16384] lk_5_164 dc_X5_mixVolume_48 rfl rfl (s_5leafNow _ v (j27 / 4) (j27 % 4) (by omega) (by omega) (by omega)) (by first | rfl | (simp only [nI_add, pk_mul]; first | done | rfl)) rfl ?_
      refine AR.run g_X5_mixVolume_51_1 52 [some (.ref 16384), some (.int (nI (v))), some (.int (nI (j27)))] [.long ((F_5leafNow v (j27 / 4) (j27 % 4) z).toInt64), .ref 16384] _ [] rfl trivial ?_
      refine AR.callV0 (16384) [.long ((F_5leafNow v (j27 / 4) (j27 % 4) z).toInt64)] [] lk_5_241 dc_X5_mixVolume_52 rfl rfl (s_5mix _ ((F_5leafNow v (j27 / 4) (j27 % 4) z).toInt64) ) (by first | rfl | (simp only [nI_add, pk_mul]; first | done | rfl)) rfl ?_
      refine AR.run g_X5_mixVolume_55_2 27 [some (.ref 16384), some (.int (nI (v))), some (.int ((nI (j27)) + (nI (1))))] [] _ [] rfl trivial ?_
      have e5 : L_5mixVolume_27 v z hh (j27 + 1) = (F_5mix_hh ((F_5leafNow v (j27 / 4) (j27 % 4) z).toInt64) (L_5mixVolume_27 v z hh j27)) := by rw [L_5mixVolume_27, B_5mixVolume_27]
      exact AR.cast (L' := [some (.ref 16384), some (.int (nI (v))), some (.int (nI (j27 + 1)))]) (by first | rfl | rw [nI_add]) rfl (by rw [e5]) (ih27 (by first | trivial | omega))
    · refine AR.run g_X5_mixVolume_27_5 32 [some (.ref 16384), some (.int (nI (v))), some (.int (nI (4 * lv z v)))] [.int (nI (2)), .int (nI (v)), .ref 16384, .int (nI (4)), .int (nI (4 * lv z v))] _ [] rfl trivial ?_
      refine AR.callV1 (16384) [.int (nI (v)), .int (nI (2))] [.int (nI (4)), .int (nI (4 * lv z v))] lk_5_62 dc_X5_mixVolume_32 rfl rfl (s_ofVolume _ v 2 (by omega) (by omega)) (by first | rfl | (simp only [nI_add, pk_mul]; first | done | rfl)) rfl ?_
      refine AR.top (hLV v hv).1 ?_
      refine AR.run g_X5_mixVolume_35_1 36 [some (.ref 16384), some (.int (nI (v))), some (.int (nI (4 * lv z v)))] [.int ((nI (4)) * (nI ((lv z v)))), .int (nI (4 * lv z v))] _ [] rfl trivial ?_
      refine AR.ge2N (tgt := 61) (a := 4 * lv z v) (b := (4 * (lv z v))) dc_X5_mixVolume_36 (by decide) (by first | rfl | (simp only [nI_add, pk_mul]; first | done | rfl)) (by first | rfl | (simp only [nI_add, pk_mul]; first | done | rfl)) (by omega) (by omega) (fun c36_6 => ?_) (fun c36_6 => absurd c36_6 (by omega))
      refine AR.run g_X5_mixVolume_61_6 69 [some (.ref 16384), some (.int (nI (v))), some (.int (nI (4 * lv z v)))] [.int (nI (3)), .ref 16385, .int (nI (v)), .ref 16384, .ref 16384] _ [] rfl trivial ?_
      refine AR.ald (n := 0) (e := 3) ok_X5_mixVolume_69 (by first | rfl | (simp only [nI_add, pk_mul]; first | done | rfl)) rfl (by omega) (by first | decide | omega) ?_
      refine AR.callV1 (16384) [.int (nI (v)), .int (z 3)] [.ref 16384] lk_5_170 dc_X5_mixVolume_70 rfl rfl (s_5whereNow _ (nI (v)) (z 3) (by assumption)) (by first | rfl | (simp only [nI_add, pk_mul]; first | done | rfl)) rfl ?_
      refine AR.run g_X5_mixVolume_73_1 74 [some (.ref 16384), some (.int (nI (v))), some (.int (nI (4 * lv z v)))] [.long ((L_5whereNow_5 (nI (v)) (z 3) z ne).toInt64), .ref 16384] _ [] rfl trivial ?_
      refine AR.callV0 (16384) [.long ((L_5whereNow_5 (nI (v)) (z 3) z ne).toInt64)] [] lk_5_241 dc_X5_mixVolume_74 rfl rfl (s_5mix _ ((L_5whereNow_5 (nI (v)) (z 3) z ne).toInt64) ) (by first | rfl | (simp only [nI_add, pk_mul]; first | done | rfl)) rfl ?_
      refine AR.run g_X5_mixVolume_77_3 80 [some (.ref 16384), some (.int (nI (v))), some (.int (nI (4 * lv z v)))] [.int (nI (v)), .ref 16384, .ref 16384] _ [] rfl trivial ?_
      refine AR.callV1 (16384) [.int (nI (v))] [.ref 16384] lk_5_200 dc_X5_mixVolume_80 rfl rfl (s_5quickestNow _ v (by assumption) (by omega)) (by first | rfl | (simp only [nI_add, pk_mul]; first | done | rfl)) rfl ?_
      refine AR.run g_X5_mixVolume_83_1 84 [some (.ref 16384), some (.int (nI (v))), some (.int (nI (4 * lv z v)))] [.long ((L_5quickestNow_4 v z nr).toInt64), .ref 16384] _ [] rfl trivial ?_
      refine AR.callV0 (16384) [.long ((L_5quickestNow_4 v z nr).toInt64)] [] lk_5_241 dc_X5_mixVolume_84 rfl rfl (s_5mix _ ((L_5quickestNow_4 v z nr).toInt64) ) (by first | rfl | (simp only [nI_add, pk_mul]; first | done | rfl)) rfl ?_
      have e7_0 : F_5mixVolume_hh v nr ne z hh = (F_5mix_hh ((L_5quickestNow_4 v z nr).toInt64) (F_5mix_hh ((L_5whereNow_5 (nI (v)) (z 3) z ne).toInt64) (L_5mixVolume_27 v z hh (4 * lv z v)))) := by rw [F_5mixVolume_hh]
      exact AR.retV dc_X5_mixVolume_87 rfl (by rw [e7_0])
theorem CT.hp {E : AE} {M : AM} {d : Nat} {av : List Value} {h : AH} {o : AR0} {h' k : AH} {mc ms : Nat} (hc : CT E M d av h o h' mc ms) (e : h' = k) : CT E M d av h o k mc ms := by rw [← e]; exact hc
/-! what lies behind the cells is never written -/
theorem hi_scans {z : Nat → Int32} {c v k i : Nat} (hc : c < 4) (hv : v < 12) (hk : k < 40) (hi : 1863 ≤ i) : F_5scans_z c v k z i = z i := by
  unfold F_5scans_z
  (repeat' split) <;> (repeat rw [upd_ne (by omega)])
theorem hi_min4 {z : Nat → Int32} {nv nc nr ne i : Nat} (hZ : ZI z nv nc nr ne) (hi : 1863 ≤ i) : ∀ j : Nat, j ≤ 4 → (L_5minute_4 nv z j).2 i = z i
  | 0, _ => rfl
  | j + 1, h => by
    have ih := hi_min4 hZ hi j (by omega)
    have iz := ZI_min4 hZ j (by omega)
    show (B_5minute_4 nv j (L_5minute_4 nv z j).1 (L_5minute_4 nv z j).2).2 i = z i
    unfold B_5minute_4
    split
    · rename_i h0
      obtain ⟨h1, h2, h3, h4⟩ := idZ_0 iz h0
      exact (hi_scans (by omega) (by have := iz.1.2; omega) h4 hi).trans ih
    · exact ih
theorem hi_min42 {z : Nat → Int32} {nv nc nr ne i : Nat} (hZ : ZI z nv nc nr ne) (hi : 1863 ≤ i) : ∀ j : Nat, j ≤ 3 → L_5minute_42 nv nc z j i = z i
  | 0, _ => hi_min4 hZ hi nc hZ.2.1.2
  | j + 1, h => by
    have ih := hi_min42 hZ hi j (by omega)
    show B_5minute_42 j (L_5minute_42 nv nc z j) i = z i
    unfold B_5minute_42
    split <;> (rw [upd_ne (by omega)]; exact ih)
theorem hi_min90 {z : Nat → Int32} {nv nc nr ne i : Nat} (hZ : ZI z nv nc nr ne) (hi : 1863 ≤ i) : ∀ j : Nat, j ≤ 12 → L_5minute_90 nv nc nr z j i = z i
  | 0, _ => hi_min42 hZ hi nr hZ.2.2.1.2
  | j + 1, h => by
    have ih := hi_min90 hZ hi j (by omega)
    show B_5minute_90 j (L_5minute_90 nv nc nr z j) i = z i
    unfold B_5minute_90
    split <;> (rw [upd_ne (by omega)]; exact ih)
theorem hi_minute {z : Nat → Int32} {nv nc nr ne i : Nat} (hZ : ZI z nv nc nr ne) (hi : 1863 ≤ i) : F_5minute_z nv nc nr z i = z i := by
  unfold F_5minute_z
  rw [upd_ne (by omega)]
  exact hi_min90 hZ hi nv hZ.1.2
theorem hi_mnN {z : Nat → Int32} {nv nc nr ne i : Nat} (hZ : ZI z nv nc nr ne) (hi : 1863 ≤ i) : ∀ j : Nat, mnN nv nc nr z j i = z i
  | 0 => rfl
  | j + 1 => (hi_minute (ZI_mnN hZ j) hi).trans (hi_mnN hZ hi j)
theorem cpK_back {z y sa : Nat → Int32} (h : ∀ i, 1863 ≤ i → y i = z i) : cpK (cpK z sa 1863) y 1863 = z := by
  funext i
  unfold cpK
  by_cases h1 : i < 1863
  · rw [if_pos h1, if_pos h1]
  · rw [if_neg h1, h i (by omega)]
theorem pN_back {z sa : Nat → Int32} {nv nc nr ne m : Nat} (hZ : ZI z nv nc nr ne) : F_5passedNow_z m nv nc nr z sa = z := by
  unfold F_5passedNow_z
  rw [pN_mn]
  exact cpK_back fun i hi => hi_mnN hZ hi m
theorem W_doneNow_back {z sa : Nat → Int32} {nv nc nr ne : Nat} : ∀ (f j : Nat) (y : Nat → Int32), ZI y nv nc nr ne → (∀ i, 1863 ≤ i → y i = z i) → (W_5doneNow_6 nv nc nr z sa f j y).2 = z
  | 0, j, y, hy, h => by
    unfold W_5doneNow_6
    split <;> exact cpK_back h
  | f + 1, j, y, hy, h => by
    unfold W_5doneNow_6
    split
    · split <;> exact cpK_back h
    · exact W_doneNow_back f (j + 1) _ (ZI_minute hy) fun i hi => (hi_minute hy hi).trans (h i hi)
theorem dN_back {z sa : Nat → Int32} {nv nc nr ne : Nat} (hZ : ZI z nv nc nr ne) : F_5doneNow_z nv nc nr z sa = z := W_doneNow_back 2001 0 z hZ fun _ _ => rfl
end
section
theorem i_nx (t : Nat) : nI 11 - nI (t + 1) + nI 1 = nI 11 - nI t := by
  rw [← nI_add]
  grind
theorem nI_v {t : Nat} (h : t ≤ 12) : QI 12 (nI 11 - nI t) := by
  by_cases h1 : t = 12
  · subst h1; exact Or.inl (by decide)
  · exact Or.inr ⟨11 - t, by omega, pk_sub (by omega)⟩
theorem nI_v11 {t : Nat} (h : t ≤ 12) : ¬ (nI 11 - nI (t + 1) = nI 11) := by
  intro e
  by_cases h1 : t < 11
  · rw [pk_sub (by omega), nI_eq (by omega) (by decide)] at e
    omega
  · obtain rfl | rfl : t = 11 ∨ t = 12 := by omega
    · exact absurd e (by decide)
    · exact absurd e (by decide)
/-- the search of the reference: what it keeps is the picks, the best picks, their sum -/
abbrev SG : Type := (Nat → Int32) × (Nat → Int32) × Int32
def dst (ga : Nat → Int32) (D : Nat) (sub : SG → SG) (t : Nat) (s : SG) : SG := if F_5canPick D ga (upd s.1 D (nI 11 - nI t)) = 0 then (upd s.1 D (nI 11 - nI t), s.2) else sub (upd s.1 D (nI 11 - nI t), s.2)
def dv (ga : Nat → Int32) (D : Nat) (sub : SG → SG) : Nat → SG → SG
  | 0, s => s
  | t + 1, s => dv ga D sub t (dst ga D sub t s)
def sub3 (ga : Nat → Int32) (s : SG) : SG := (s.1, F_5keepPicks_be ga s.1 s.2.1 s.2.2, F_5keepPicks_bm ga s.1 s.2.1 s.2.2)
def sub2 (ga : Nat → Int32) (s : SG) : SG := dv ga 3 (sub3 ga) 13 (upd s.1 3 (-2), s.2)
def sub1 (ga : Nat → Int32) (s : SG) : SG := dv ga 2 (sub2 ga) 13 (upd s.1 2 (-2), s.2)
def sub0 (ga : Nat → Int32) (s : SG) : SG := dv ga 1 (sub1 ga) 13 (upd s.1 1 (-2), s.2)
def sg0 (ga pi be : Nat → Int32) : SG := dv ga 0 (sub0 ga) 13 (upd pi 0 (-2), be, -1)
theorem dv_lo {ga : Nat → Int32} {D : Nat} {sub : SG → SG} (hs : ∀ s j, j ≤ D → (sub s).1 j = s.1 j) : ∀ (t : Nat) (s : SG) (j : Nat), j < D → (dv ga D sub t s).1 j = s.1 j
  | 0, s, j, _ => rfl
  | t + 1, s, j, h => by
    have h1 : (dst ga D sub t s).1 j = s.1 j := by
      unfold dst
      split
      · exact upd_ne (by omega)
      · rw [hs _ j (by omega)]; exact upd_ne (by omega)
    exact (dv_lo hs t _ j h).trans h1
theorem sub3_lo (ga : Nat → Int32) (s : SG) (j : Nat) (_ : j ≤ 3) : (sub3 ga s).1 j = s.1 j := rfl
theorem sub2_lo (ga : Nat → Int32) (s : SG) (j : Nat) (h : j ≤ 2) : (sub2 ga s).1 j = s.1 j := (dv_lo (sub3_lo ga) 13 _ j (by omega)).trans (upd_ne (by omega))
theorem sub1_lo (ga : Nat → Int32) (s : SG) (j : Nat) (h : j ≤ 1) : (sub1 ga s).1 j = s.1 j := (dv_lo (sub2_lo ga) 13 _ j (by omega)).trans (upd_ne (by omega))
theorem sub0_lo (ga : Nat → Int32) (s : SG) (j : Nat) (h : j ≤ 0) : (sub0 ga s).1 j = s.1 j := (dv_lo (sub1_lo ga) 13 _ j (by omega)).trans (upd_ne (by omega))
theorem g_X5_layBest_20_1 : ab_oks M_X5_layBest [(20, .iload_n 2, 1, 2, 0, 0, .null)] = true := by decide +kernel
theorem dc_X5_layBest_21 : decode (AM.bytes M_X5_layBest) 21 = .ok (.ifCond .lt 72, 3) := by decide +kernel
theorem g_X5_layBest_24_3 : ab_oks M_X5_layBest [(24, .aload_n 0, 1, 0, 0, 0, .null), (25, .getfield 34, 3, 5, 8, 938, .null), (28, .iload_n 2, 1, 2, 0, 0, .null)] = true := by decide +kernel
theorem ok_X5_layBest_29 : ab_ok M_X5_layBest (29, .iaload, 1, 0, 0, 0, .null) = true := by decide +kernel
theorem g_X5_layBest_30_1 : ab_oks M_X5_layBest [(30, .bipush 11, 2, 0, 0, 0, .int (nI (11)))] = true := by decide +kernel
theorem dc_X5_layBest_32 : decode (AM.bytes M_X5_layBest) 32 = .ok (.if_icmp .ne 9, 3) := by decide +kernel
theorem g_X5_layBest_35_2 : ab_oks M_X5_layBest [(35, .iinc 2 (-1), 3, 2, 0, 0, .int (-1)), (38, .goto (-18), 3, 20, 0, 0, .null)] = true := by decide +kernel
theorem g_X5_layBest_41_4 : ab_oks M_X5_layBest [(41, .aload_n 0, 1, 0, 0, 0, .null), (42, .getfield 34, 3, 5, 8, 938, .null), (45, .iload_n 2, 1, 2, 0, 0, .null), (46, .dup2, 1, 0, 0, 0, .null)] = true := by decide +kernel
theorem ok_X5_layBest_47 : ab_ok M_X5_layBest (47, .iaload, 1, 0, 0, 0, .null) = true := by decide +kernel
theorem g_X5_layBest_48_2 : ab_oks M_X5_layBest [(48, .iconst 1, 1, 0, 0, 0, .int (nI (1))), (49, .iadd, 1, 0, 0, 0, .null)] = true := by decide +kernel
theorem ok_X5_layBest_50 : ab_ok M_X5_layBest (50, .iastore, 1, 0, 0, 0, .null) = true := by decide +kernel
theorem g_X5_layBest_51_2 : ab_oks M_X5_layBest [(51, .aload_n 0, 1, 0, 0, 0, .null), (52, .iload_n 2, 1, 2, 0, 0, .null)] = true := by decide +kernel
theorem lk_5_219 : ab_lkV "LeafCradlesModel" 219 M_X5_canPick 1 [1297, 1299, 83, 97, 1300] = true := by decide +kernel
theorem dc_X5_layBest_53 : decode (AM.bytes M_X5_layBest) 53 = .ok (.invokevirtual 219, 3) := by decide +kernel
theorem dc_X5_layBest_56 : decode (AM.bytes M_X5_layBest) 56 = .ok (.ifCond .eq 15, 3) := by decide +kernel
theorem g_X5_layBest_71_2 : ab_oks M_X5_layBest [(71, .aload_n 0, 1, 0, 0, 0, .null), (72, .iload_n 2, 1, 2, 0, 0, .null)] = true := by decide +kernel
theorem dc_X5_layBest_73 : decode (AM.bytes M_X5_layBest) 73 = .ok (.invokevirtual 219, 3) := by decide +kernel
theorem dc_X5_layBest_76 : decode (AM.bytes M_X5_layBest) 76 = .ok (.ifCond .eq (-56), 3) := by decide +kernel
theorem g_X5_layBest_59_2 : ab_oks M_X5_layBest [(59, .iload_n 2, 1, 2, 0, 0, .null), (60, .iconst 3, 1, 0, 0, 0, .int (nI (3)))] = true := by decide +kernel
theorem dc_X5_layBest_61 : decode (AM.bytes M_X5_layBest) 61 = .ok (.if_icmp .ne 10, 3) := by decide +kernel
theorem g_X5_layBest_64_1 : ab_oks M_X5_layBest [(64, .aload_n 0, 1, 0, 0, 0, .null)] = true := by decide +kernel
theorem lk_5_222 : ab_lkV "LeafCradlesModel" 222 M_X5_keepPicks 0 [1301, 1303, 84, 97, 1304] = true := by decide +kernel
theorem dc_X5_layBest_65 : decode (AM.bytes M_X5_layBest) 65 = .ok (.invokevirtual 222, 3) := by decide +kernel
theorem g_X5_layBest_68_1 : ab_oks M_X5_layBest [(68, .goto (-48), 3, 20, 0, 0, .null)] = true := by decide +kernel
set_option maxRecDepth 100000 in
set_option maxHeartbeats 4000000 in
theorem lb3 {E : AE} {d : Nat} {o0 a0 t0 p0 u0 l0 : List AC} {z sa ro te fr to un ga : Nat → Int32} {en sta sv ln th : Int32} {hh : Int64} {o : AR0} {h' : AH} : ∀ (t : Nat) (p b : Nat → Int32) (q : Int32), t ≤ 13 → (∀ j, j < 3 → QI 12 (p j)) → p 3 = nI 11 - nI t → AR E M_X5_layBest (d + 5) 20 [some (.ref 16384), none, some (.int (nI (2)))] [] (hp o0 a0 t0 p0 (mo z sa ro te fr to un ga ((dv ga 3 (sub3 ga) t (p, b, q)).1) ((dv ga 3 (sub3 ga) t (p, b, q)).2.1) ((dv ga 3 (sub3 ga) t (p, b, q)).2.2) en sta sv ln th hh) u0 l0) o h' 0 0 → AR E M_X5_layBest (d + 5) 20 [some (.ref 16384), none, some (.int (nI (3)))] [] (hp o0 a0 t0 p0 (mo z sa ro te fr to un ga p b q en sta sv ln th hh) u0 l0) o h' 0 0 := by
  intro t
  induction t with
  | zero =>
    intro p b q _ hq hd hK
    refine AR.run g_X5_layBest_20_1 21 [some (.ref 16384), none, some (.int (nI (3)))] [.int (nI (3))] _ [] rfl trivial ?_
    refine AR.ltN (tgt := 93) (a := 3) dc_X5_layBest_21 (by decide) (by first | rfl | (simp only [nI_add, pk_mul]; first | done | rfl)) (by omega) (fun c21_1 => absurd c21_1 (fun q => q)) (fun c21_1 => ?_)
    refine AR.run g_X5_layBest_24_3 29 [some (.ref 16384), none, some (.int (nI (3)))] [.int (nI (3)), .ref 16393] _ [] rfl trivial ?_
    refine AR.ald (n := 0) (e := 3) ok_X5_layBest_29 (by first | rfl | (simp only [nI_add, pk_mul]; first | done | rfl)) rfl (by omega) (by first | decide | omega) ?_
    refine AR.top hd ?_
    refine AR.run g_X5_layBest_30_1 32 [some (.ref 16384), none, some (.int (nI (3)))] [.int (nI (11)), .int (nI (11))] _ [] rfl trivial ?_
    refine AR.ne2N (tgt := 41) (a := 11) (b := 11) dc_X5_layBest_32 (by decide) (by first | rfl | (simp only [nI_add, pk_mul]; first | done | rfl)) (by first | rfl | (simp only [nI_add, pk_mul]; first | done | rfl)) (by omega) (by omega) (fun c32_2 => absurd c32_2 (by omega)) (fun c32_2 => ?_)
    refine AR.run g_X5_layBest_35_2 20 [some (.ref 16384), none, some (.int ((nI (3)) + (-1)))] [] _ [] rfl trivial ?_
    exact AR.cast (L' := [some (.ref 16384), none, some (.int (nI (2)))]) (by first | rfl | (rw [nI_add]) | decide) rfl rfl hK
  | succ t ih =>
    intro p b q ht hq hd hK
    have hv := nI_v (t := t) (by omega)
    have hu : upd p 3 (nI 11 - nI t) 3 = nI 11 - nI t := upd_eq
    have hK2 : AR E M_X5_layBest (d + 5) 20 [some (.ref 16384), none, some (.int (nI (2)))] [] (hp o0 a0 t0 p0 (mo z sa ro te fr to un ga ((dv ga 3 (sub3 ga) t (dst ga 3 (sub3 ga) t (p, b, q))).1) ((dv ga 3 (sub3 ga) t (dst ga 3 (sub3 ga) t (p, b, q))).2.1) ((dv ga 3 (sub3 ga) t (dst ga 3 (sub3 ga) t (p, b, q))).2.2) en sta sv ln th hh) u0 l0) o h' 0 0 := hK
    refine AR.run g_X5_layBest_20_1 21 [some (.ref 16384), none, some (.int (nI (3)))] [.int (nI (3))] _ [] rfl trivial ?_
    refine AR.ltN (tgt := 93) (a := 3) dc_X5_layBest_21 (by decide) (by first | rfl | (simp only [nI_add, pk_mul]; first | done | rfl)) (by omega) (fun c21_101 => absurd c21_101 (fun q => q)) (fun c21_101 => ?_)
    refine AR.run g_X5_layBest_24_3 29 [some (.ref 16384), none, some (.int (nI (3)))] [.int (nI (3)), .ref 16393] _ [] rfl trivial ?_
    refine AR.ald (n := 0) (e := 3) ok_X5_layBest_29 (by first | rfl | (simp only [nI_add, pk_mul]; first | done | rfl)) rfl (by omega) (by first | decide | omega) ?_
    refine AR.top hd ?_
    refine AR.run g_X5_layBest_30_1 32 [some (.ref 16384), none, some (.int (nI (3)))] [.int (nI (11)), .int ((nI 11 - nI (t + 1)))] _ [] rfl trivial ?_
    refine AR.ne2 (tgt := 41) dc_X5_layBest_32 (by decide) (fun c32_102 => ?_) (fun c32_102 => absurd c32_102 (nI_v11 (by omega)))
    refine AR.run g_X5_layBest_41_4 47 [some (.ref 16384), none, some (.int (nI (3)))] [.int (nI (3)), .ref 16393, .int (nI (3)), .ref 16393] _ [] rfl trivial ?_
    refine AR.ald (n := 0) (e := 3) ok_X5_layBest_47 (by first | rfl | (simp only [nI_add, pk_mul]; first | done | rfl)) rfl (by omega) (by first | decide | omega) ?_
    refine AR.top hd ?_
    refine AR.run g_X5_layBest_48_2 50 [some (.ref 16384), none, some (.int (nI (3)))] [.int ((nI 11 - nI (t + 1)) + (nI (1))), .int (nI (3)), .ref 16393] _ [] rfl trivial ?_
    refine AR.ast (n := 0) (e := 3) (h1 := (hp o0 a0 t0 p0 (mo z sa ro te fr to un ga (upd p 3 ((nI 11 - nI (t + 1)) + (nI (1)))) b q en sta sv ln th hh) u0 l0)) ok_X5_layBest_50 (by first | rfl | (simp only [nI_add, pk_mul]; first | done | rfl)) rfl rfl (by omega) (by decide) rfl ?_
    refine AR.cast (L' := [some (.ref 16384), none, some (.int (nI (3)))]) rfl rfl (by rw [i_nx]) ?_
    refine AR.run g_X5_layBest_51_2 53 [some (.ref 16384), none, some (.int (nI (3)))] [.int (nI (3)), .ref 16384] _ [] rfl trivial ?_
    refine AR.callV1 (16384) [.int (nI (3))] [] lk_5_219 dc_X5_layBest_53 rfl rfl (s_5canPick _ 3 (by omega) (by rw [hu]; exact hv)) (by first | rfl | (simp only [nI_add, pk_mul]; first | done | rfl)) rfl ?_
    refine AR.eq (tgt := 71) dc_X5_layBest_56 (by decide) (fun c56_103 => ?_) (fun c56_103 => ?_)
    · refine AR.run g_X5_layBest_71_2 73 [some (.ref 16384), none, some (.int (nI (3)))] [.int (nI (3)), .ref 16384] _ [] rfl trivial ?_
      refine AR.callV1 (16384) [.int (nI (3))] [] lk_5_219 dc_X5_layBest_73 rfl rfl (s_5canPick _ 3 (by omega) (by rw [hu]; exact hv)) (by first | rfl | (simp only [nI_add, pk_mul]; first | done | rfl)) rfl ?_
      refine AR.eq (tgt := 20) dc_X5_layBest_76 (by decide) (fun c76_104 => ?_) (fun c76_104 => absurd c76_104 (fun q => q c56_103))
      have hno : dst ga 3 (sub3 ga) t (p, b, q) = (upd p 3 (nI 11 - nI t), b, q) := if_pos (by assumption)
      rw [hno] at hK2
      exact ih (upd p 3 (nI 11 - nI t)) b q (by omega) (fun j hj => by rw [upd_ne (by omega)]; exact hq j hj) hu hK2
    · have hP4 : ∀ j, j < 4 → QI 12 (upd p 3 (nI 11 - nI t) j) := fun j hj => by by_cases hj2 : j = 3; (rw [hj2, hu]; exact hv); (rw [upd_ne hj2]; exact hq j (by omega))
      have hsub : dst ga 3 (sub3 ga) t (p, b, q) = sub3 ga (upd p 3 (nI 11 - nI t), b, q) := if_neg (by assumption)
      refine AR.run g_X5_layBest_59_2 61 [some (.ref 16384), none, some (.int (nI (3)))] [.int (nI (3)), .int (nI (3))] _ [] rfl trivial ?_
      refine AR.ne2N (tgt := 71) (a := 3) (b := 3) dc_X5_layBest_61 (by decide) (by first | rfl | (simp only [nI_add, pk_mul]; first | done | rfl)) (by first | rfl | (simp only [nI_add, pk_mul]; first | done | rfl)) (by omega) (by omega) (fun c61_105 => absurd c61_105 (by omega)) (fun c61_105 => ?_)
      refine AR.run g_X5_layBest_64_1 65 [some (.ref 16384), none, some (.int (nI (3)))] [.ref 16384] _ [] rfl trivial ?_
      refine AR.callV0 (16384) [] [] lk_5_222 dc_X5_layBest_65 rfl rfl (s_5keepPicks _  (by assumption)) (by first | rfl | (simp only [nI_add, pk_mul]; first | done | rfl)) rfl ?_
      refine AR.run g_X5_layBest_68_1 20 [some (.ref 16384), none, some (.int (nI (3)))] [] _ [] rfl trivial ?_
      rw [hsub] at hK2
      exact ih (upd p 3 (nI 11 - nI t)) (F_5keepPicks_be ga (upd p 3 (nI 11 - nI t)) b q) (F_5keepPicks_bm ga (upd p 3 (nI 11 - nI t)) b q) (by omega) (fun j hj => by rw [upd_ne (by omega)]; exact hq j hj) hu hK2
theorem g_X5_layBest_79_5 : ab_oks M_X5_layBest [(79, .iinc 2 1, 3, 2, 0, 0, .int (nI (1))), (82, .aload_n 0, 1, 0, 0, 0, .null), (83, .getfield 34, 3, 5, 8, 938, .null), (86, .iload_n 2, 1, 2, 0, 0, .null), (87, .bipush (-2), 2, 0, 0, 0, .int (-2))] = true := by decide +kernel
theorem ok_X5_layBest_89 : ab_ok M_X5_layBest (89, .iastore, 1, 0, 0, 0, .null) = true := by decide +kernel
theorem g_X5_layBest_90_1 : ab_oks M_X5_layBest [(90, .goto (-70), 3, 20, 0, 0, .null)] = true := by decide +kernel
set_option maxRecDepth 100000 in
set_option maxHeartbeats 4000000 in
theorem lb2 {E : AE} {d : Nat} {o0 a0 t0 p0 u0 l0 : List AC} {z sa ro te fr to un ga : Nat → Int32} {en sta sv ln th : Int32} {hh : Int64} {o : AR0} {h' : AH} : ∀ (t : Nat) (p b : Nat → Int32) (q : Int32), t ≤ 13 → (∀ j, j < 2 → QI 12 (p j)) → p 2 = nI 11 - nI t → AR E M_X5_layBest (d + 5) 20 [some (.ref 16384), none, some (.int (nI (1)))] [] (hp o0 a0 t0 p0 (mo z sa ro te fr to un ga ((dv ga 2 (sub2 ga) t (p, b, q)).1) ((dv ga 2 (sub2 ga) t (p, b, q)).2.1) ((dv ga 2 (sub2 ga) t (p, b, q)).2.2) en sta sv ln th hh) u0 l0) o h' 0 0 → AR E M_X5_layBest (d + 5) 20 [some (.ref 16384), none, some (.int (nI (2)))] [] (hp o0 a0 t0 p0 (mo z sa ro te fr to un ga p b q en sta sv ln th hh) u0 l0) o h' 0 0 := by
  intro t
  induction t with
  | zero =>
    intro p b q _ hq hd hK
    refine AR.run g_X5_layBest_20_1 21 [some (.ref 16384), none, some (.int (nI (2)))] [.int (nI (2))] _ [] rfl trivial ?_
    refine AR.ltN (tgt := 93) (a := 2) dc_X5_layBest_21 (by decide) (by first | rfl | (simp only [nI_add, pk_mul]; first | done | rfl)) (by omega) (fun c21_1 => absurd c21_1 (fun q => q)) (fun c21_1 => ?_)
    refine AR.run g_X5_layBest_24_3 29 [some (.ref 16384), none, some (.int (nI (2)))] [.int (nI (2)), .ref 16393] _ [] rfl trivial ?_
    refine AR.ald (n := 0) (e := 2) ok_X5_layBest_29 (by first | rfl | (simp only [nI_add, pk_mul]; first | done | rfl)) rfl (by omega) (by first | decide | omega) ?_
    refine AR.top hd ?_
    refine AR.run g_X5_layBest_30_1 32 [some (.ref 16384), none, some (.int (nI (2)))] [.int (nI (11)), .int (nI (11))] _ [] rfl trivial ?_
    refine AR.ne2N (tgt := 41) (a := 11) (b := 11) dc_X5_layBest_32 (by decide) (by first | rfl | (simp only [nI_add, pk_mul]; first | done | rfl)) (by first | rfl | (simp only [nI_add, pk_mul]; first | done | rfl)) (by omega) (by omega) (fun c32_2 => absurd c32_2 (by omega)) (fun c32_2 => ?_)
    refine AR.run g_X5_layBest_35_2 20 [some (.ref 16384), none, some (.int ((nI (2)) + (-1)))] [] _ [] rfl trivial ?_
    exact AR.cast (L' := [some (.ref 16384), none, some (.int (nI (1)))]) (by first | rfl | (rw [nI_add]) | decide) rfl rfl hK
  | succ t ih =>
    intro p b q ht hq hd hK
    have hv := nI_v (t := t) (by omega)
    have hu : upd p 2 (nI 11 - nI t) 2 = nI 11 - nI t := upd_eq
    have hK2 : AR E M_X5_layBest (d + 5) 20 [some (.ref 16384), none, some (.int (nI (1)))] [] (hp o0 a0 t0 p0 (mo z sa ro te fr to un ga ((dv ga 2 (sub2 ga) t (dst ga 2 (sub2 ga) t (p, b, q))).1) ((dv ga 2 (sub2 ga) t (dst ga 2 (sub2 ga) t (p, b, q))).2.1) ((dv ga 2 (sub2 ga) t (dst ga 2 (sub2 ga) t (p, b, q))).2.2) en sta sv ln th hh) u0 l0) o h' 0 0 := hK
    refine AR.run g_X5_layBest_20_1 21 [some (.ref 16384), none, some (.int (nI (2)))] [.int (nI (2))] _ [] rfl trivial ?_
    refine AR.ltN (tgt := 93) (a := 2) dc_X5_layBest_21 (by decide) (by first | rfl | (simp only [nI_add, pk_mul]; first | done | rfl)) (by omega) (fun c21_101 => absurd c21_101 (fun q => q)) (fun c21_101 => ?_)
    refine AR.run g_X5_layBest_24_3 29 [some (.ref 16384), none, some (.int (nI (2)))] [.int (nI (2)), .ref 16393] _ [] rfl trivial ?_
    refine AR.ald (n := 0) (e := 2) ok_X5_layBest_29 (by first | rfl | (simp only [nI_add, pk_mul]; first | done | rfl)) rfl (by omega) (by first | decide | omega) ?_
    refine AR.top hd ?_
    refine AR.run g_X5_layBest_30_1 32 [some (.ref 16384), none, some (.int (nI (2)))] [.int (nI (11)), .int ((nI 11 - nI (t + 1)))] _ [] rfl trivial ?_
    refine AR.ne2 (tgt := 41) dc_X5_layBest_32 (by decide) (fun c32_102 => ?_) (fun c32_102 => absurd c32_102 (nI_v11 (by omega)))
    refine AR.run g_X5_layBest_41_4 47 [some (.ref 16384), none, some (.int (nI (2)))] [.int (nI (2)), .ref 16393, .int (nI (2)), .ref 16393] _ [] rfl trivial ?_
    refine AR.ald (n := 0) (e := 2) ok_X5_layBest_47 (by first | rfl | (simp only [nI_add, pk_mul]; first | done | rfl)) rfl (by omega) (by first | decide | omega) ?_
    refine AR.top hd ?_
    refine AR.run g_X5_layBest_48_2 50 [some (.ref 16384), none, some (.int (nI (2)))] [.int ((nI 11 - nI (t + 1)) + (nI (1))), .int (nI (2)), .ref 16393] _ [] rfl trivial ?_
    refine AR.ast (n := 0) (e := 2) (h1 := (hp o0 a0 t0 p0 (mo z sa ro te fr to un ga (upd p 2 ((nI 11 - nI (t + 1)) + (nI (1)))) b q en sta sv ln th hh) u0 l0)) ok_X5_layBest_50 (by first | rfl | (simp only [nI_add, pk_mul]; first | done | rfl)) rfl rfl (by omega) (by decide) rfl ?_
    refine AR.cast (L' := [some (.ref 16384), none, some (.int (nI (2)))]) rfl rfl (by rw [i_nx]) ?_
    refine AR.run g_X5_layBest_51_2 53 [some (.ref 16384), none, some (.int (nI (2)))] [.int (nI (2)), .ref 16384] _ [] rfl trivial ?_
    refine AR.callV1 (16384) [.int (nI (2))] [] lk_5_219 dc_X5_layBest_53 rfl rfl (s_5canPick _ 2 (by omega) (by rw [hu]; exact hv)) (by first | rfl | (simp only [nI_add, pk_mul]; first | done | rfl)) rfl ?_
    refine AR.eq (tgt := 71) dc_X5_layBest_56 (by decide) (fun c56_103 => ?_) (fun c56_103 => ?_)
    · refine AR.run g_X5_layBest_71_2 73 [some (.ref 16384), none, some (.int (nI (2)))] [.int (nI (2)), .ref 16384] _ [] rfl trivial ?_
      refine AR.callV1 (16384) [.int (nI (2))] [] lk_5_219 dc_X5_layBest_73 rfl rfl (s_5canPick _ 2 (by omega) (by rw [hu]; exact hv)) (by first | rfl | (simp only [nI_add, pk_mul]; first | done | rfl)) rfl ?_
      refine AR.eq (tgt := 20) dc_X5_layBest_76 (by decide) (fun c76_104 => ?_) (fun c76_104 => absurd c76_104 (fun q => q c56_103))
      have hno : dst ga 2 (sub2 ga) t (p, b, q) = (upd p 2 (nI 11 - nI t), b, q) := if_pos (by assumption)
      rw [hno] at hK2
      exact ih (upd p 2 (nI 11 - nI t)) b q (by omega) (fun j hj => by rw [upd_ne (by omega)]; exact hq j hj) hu hK2
    · have hsub : dst ga 2 (sub2 ga) t (p, b, q) = sub2 ga (upd p 2 (nI 11 - nI t), b, q) := if_neg (by assumption)
      refine AR.run g_X5_layBest_59_2 61 [some (.ref 16384), none, some (.int (nI (2)))] [.int (nI (3)), .int (nI (2))] _ [] rfl trivial ?_
      refine AR.ne2N (tgt := 71) (a := 2) (b := 3) dc_X5_layBest_61 (by decide) (by first | rfl | (simp only [nI_add, pk_mul]; first | done | rfl)) (by first | rfl | (simp only [nI_add, pk_mul]; first | done | rfl)) (by omega) (by omega) (fun c61_105 => ?_) (fun c61_105 => absurd c61_105 (by omega))
      refine AR.run g_X5_layBest_71_2 73 [some (.ref 16384), none, some (.int (nI (2)))] [.int (nI (2)), .ref 16384] _ [] rfl trivial ?_
      refine AR.callV1 (16384) [.int (nI (2))] [] lk_5_219 dc_X5_layBest_73 rfl rfl (s_5canPick _ 2 (by omega) (by rw [hu]; exact hv)) (by first | rfl | (simp only [nI_add, pk_mul]; first | done | rfl)) rfl ?_
      refine AR.eq (tgt := 20) dc_X5_layBest_76 (by decide) (fun c76_106 => absurd c76_106 c56_103) (fun c76_106 => ?_)
      refine AR.run g_X5_layBest_79_5 89 [some (.ref 16384), none, some (.int ((nI (2)) + (nI (1))))] [.int (-2), .int ((nI (2)) + (nI (1))), .ref 16393] _ [] rfl trivial ?_
      refine AR.ast (n := 0) (e := (2 + 1)) (h1 := (hp o0 a0 t0 p0 (mo z sa ro te fr to un ga (upd (upd p 2 (nI 11 - nI t)) (2 + 1) (-2)) b q en sta sv ln th hh) u0 l0)) ok_X5_layBest_89 (by first | rfl | (simp only [nI_add, pk_mul]; first | done | rfl)) rfl rfl (by omega) (by decide) rfl ?_
      refine AR.run g_X5_layBest_90_1 20 [some (.ref 16384), none, some (.int ((nI (2)) + (nI (1))))] [] _ [] rfl trivial ?_
      rw [hsub] at hK2
      refine AR.cast (L' := [some (.ref 16384), none, some (.int (nI (3)))]) (by first | rfl | (rw [nI_add])) rfl rfl ?_
      refine lb3 13 (upd (upd p 2 (nI 11 - nI t)) (2 + 1) (-2)) b q (by omega) (fun j hj => ?_) (by rw [upd_eq]; decide) ?_
      · rw [upd_ne (by omega)]
        by_cases hj2 : j = 2
        · rw [hj2, hu]; exact hv
        · rw [upd_ne hj2]; exact hq j (by omega)
      · refine ih _ _ _ (by omega) (fun j hj => ?_) ?_ hK2
        · rw [show (dv ga 3 (sub3 ga) 13 (upd (upd p 2 (nI 11 - nI t)) 3 (-2), b, q)).1 j = _ from (sub2_lo ga (upd p 2 (nI 11 - nI t), b, q) j (by omega))]; show QI 12 (upd p 2 (nI 11 - nI t) j); rw [upd_ne (by omega)]; exact hq j hj
        · exact (sub2_lo ga (upd p 2 (nI 11 - nI t), b, q) 2 (by omega)).trans hu
set_option maxRecDepth 100000 in
set_option maxHeartbeats 4000000 in
theorem lb1 {E : AE} {d : Nat} {o0 a0 t0 p0 u0 l0 : List AC} {z sa ro te fr to un ga : Nat → Int32} {en sta sv ln th : Int32} {hh : Int64} {o : AR0} {h' : AH} : ∀ (t : Nat) (p b : Nat → Int32) (q : Int32), t ≤ 13 → (∀ j, j < 1 → QI 12 (p j)) → p 1 = nI 11 - nI t → AR E M_X5_layBest (d + 5) 20 [some (.ref 16384), none, some (.int (nI (0)))] [] (hp o0 a0 t0 p0 (mo z sa ro te fr to un ga ((dv ga 1 (sub1 ga) t (p, b, q)).1) ((dv ga 1 (sub1 ga) t (p, b, q)).2.1) ((dv ga 1 (sub1 ga) t (p, b, q)).2.2) en sta sv ln th hh) u0 l0) o h' 0 0 → AR E M_X5_layBest (d + 5) 20 [some (.ref 16384), none, some (.int (nI (1)))] [] (hp o0 a0 t0 p0 (mo z sa ro te fr to un ga p b q en sta sv ln th hh) u0 l0) o h' 0 0 := by
  intro t
  induction t with
  | zero =>
    intro p b q _ hq hd hK
    refine AR.run g_X5_layBest_20_1 21 [some (.ref 16384), none, some (.int (nI (1)))] [.int (nI (1))] _ [] rfl trivial ?_
    refine AR.ltN (tgt := 93) (a := 1) dc_X5_layBest_21 (by decide) (by first | rfl | (simp only [nI_add, pk_mul]; first | done | rfl)) (by omega) (fun c21_1 => absurd c21_1 (fun q => q)) (fun c21_1 => ?_)
    refine AR.run g_X5_layBest_24_3 29 [some (.ref 16384), none, some (.int (nI (1)))] [.int (nI (1)), .ref 16393] _ [] rfl trivial ?_
    refine AR.ald (n := 0) (e := 1) ok_X5_layBest_29 (by first | rfl | (simp only [nI_add, pk_mul]; first | done | rfl)) rfl (by omega) (by first | decide | omega) ?_
    refine AR.top hd ?_
    refine AR.run g_X5_layBest_30_1 32 [some (.ref 16384), none, some (.int (nI (1)))] [.int (nI (11)), .int (nI (11))] _ [] rfl trivial ?_
    refine AR.ne2N (tgt := 41) (a := 11) (b := 11) dc_X5_layBest_32 (by decide) (by first | rfl | (simp only [nI_add, pk_mul]; first | done | rfl)) (by first | rfl | (simp only [nI_add, pk_mul]; first | done | rfl)) (by omega) (by omega) (fun c32_2 => absurd c32_2 (by omega)) (fun c32_2 => ?_)
    refine AR.run g_X5_layBest_35_2 20 [some (.ref 16384), none, some (.int ((nI (1)) + (-1)))] [] _ [] rfl trivial ?_
    exact AR.cast (L' := [some (.ref 16384), none, some (.int (nI (0)))]) (by first | rfl | (rw [nI_add]) | decide) rfl rfl hK
  | succ t ih =>
    intro p b q ht hq hd hK
    have hv := nI_v (t := t) (by omega)
    have hu : upd p 1 (nI 11 - nI t) 1 = nI 11 - nI t := upd_eq
    have hK2 : AR E M_X5_layBest (d + 5) 20 [some (.ref 16384), none, some (.int (nI (0)))] [] (hp o0 a0 t0 p0 (mo z sa ro te fr to un ga ((dv ga 1 (sub1 ga) t (dst ga 1 (sub1 ga) t (p, b, q))).1) ((dv ga 1 (sub1 ga) t (dst ga 1 (sub1 ga) t (p, b, q))).2.1) ((dv ga 1 (sub1 ga) t (dst ga 1 (sub1 ga) t (p, b, q))).2.2) en sta sv ln th hh) u0 l0) o h' 0 0 := hK
    refine AR.run g_X5_layBest_20_1 21 [some (.ref 16384), none, some (.int (nI (1)))] [.int (nI (1))] _ [] rfl trivial ?_
    refine AR.ltN (tgt := 93) (a := 1) dc_X5_layBest_21 (by decide) (by first | rfl | (simp only [nI_add, pk_mul]; first | done | rfl)) (by omega) (fun c21_101 => absurd c21_101 (fun q => q)) (fun c21_101 => ?_)
    refine AR.run g_X5_layBest_24_3 29 [some (.ref 16384), none, some (.int (nI (1)))] [.int (nI (1)), .ref 16393] _ [] rfl trivial ?_
    refine AR.ald (n := 0) (e := 1) ok_X5_layBest_29 (by first | rfl | (simp only [nI_add, pk_mul]; first | done | rfl)) rfl (by omega) (by first | decide | omega) ?_
    refine AR.top hd ?_
    refine AR.run g_X5_layBest_30_1 32 [some (.ref 16384), none, some (.int (nI (1)))] [.int (nI (11)), .int ((nI 11 - nI (t + 1)))] _ [] rfl trivial ?_
    refine AR.ne2 (tgt := 41) dc_X5_layBest_32 (by decide) (fun c32_102 => ?_) (fun c32_102 => absurd c32_102 (nI_v11 (by omega)))
    refine AR.run g_X5_layBest_41_4 47 [some (.ref 16384), none, some (.int (nI (1)))] [.int (nI (1)), .ref 16393, .int (nI (1)), .ref 16393] _ [] rfl trivial ?_
    refine AR.ald (n := 0) (e := 1) ok_X5_layBest_47 (by first | rfl | (simp only [nI_add, pk_mul]; first | done | rfl)) rfl (by omega) (by first | decide | omega) ?_
    refine AR.top hd ?_
    refine AR.run g_X5_layBest_48_2 50 [some (.ref 16384), none, some (.int (nI (1)))] [.int ((nI 11 - nI (t + 1)) + (nI (1))), .int (nI (1)), .ref 16393] _ [] rfl trivial ?_
    refine AR.ast (n := 0) (e := 1) (h1 := (hp o0 a0 t0 p0 (mo z sa ro te fr to un ga (upd p 1 ((nI 11 - nI (t + 1)) + (nI (1)))) b q en sta sv ln th hh) u0 l0)) ok_X5_layBest_50 (by first | rfl | (simp only [nI_add, pk_mul]; first | done | rfl)) rfl rfl (by omega) (by decide) rfl ?_
    refine AR.cast (L' := [some (.ref 16384), none, some (.int (nI (1)))]) rfl rfl (by rw [i_nx]) ?_
    refine AR.run g_X5_layBest_51_2 53 [some (.ref 16384), none, some (.int (nI (1)))] [.int (nI (1)), .ref 16384] _ [] rfl trivial ?_
    refine AR.callV1 (16384) [.int (nI (1))] [] lk_5_219 dc_X5_layBest_53 rfl rfl (s_5canPick _ 1 (by omega) (by rw [hu]; exact hv)) (by first | rfl | (simp only [nI_add, pk_mul]; first | done | rfl)) rfl ?_
    refine AR.eq (tgt := 71) dc_X5_layBest_56 (by decide) (fun c56_103 => ?_) (fun c56_103 => ?_)
    · refine AR.run g_X5_layBest_71_2 73 [some (.ref 16384), none, some (.int (nI (1)))] [.int (nI (1)), .ref 16384] _ [] rfl trivial ?_
      refine AR.callV1 (16384) [.int (nI (1))] [] lk_5_219 dc_X5_layBest_73 rfl rfl (s_5canPick _ 1 (by omega) (by rw [hu]; exact hv)) (by first | rfl | (simp only [nI_add, pk_mul]; first | done | rfl)) rfl ?_
      refine AR.eq (tgt := 20) dc_X5_layBest_76 (by decide) (fun c76_104 => ?_) (fun c76_104 => absurd c76_104 (fun q => q c56_103))
      have hno : dst ga 1 (sub1 ga) t (p, b, q) = (upd p 1 (nI 11 - nI t), b, q) := if_pos (by assumption)
      rw [hno] at hK2
      exact ih (upd p 1 (nI 11 - nI t)) b q (by omega) (fun j hj => by rw [upd_ne (by omega)]; exact hq j hj) hu hK2
    · have hsub : dst ga 1 (sub1 ga) t (p, b, q) = sub1 ga (upd p 1 (nI 11 - nI t), b, q) := if_neg (by assumption)
      refine AR.run g_X5_layBest_59_2 61 [some (.ref 16384), none, some (.int (nI (1)))] [.int (nI (3)), .int (nI (1))] _ [] rfl trivial ?_
      refine AR.ne2N (tgt := 71) (a := 1) (b := 3) dc_X5_layBest_61 (by decide) (by first | rfl | (simp only [nI_add, pk_mul]; first | done | rfl)) (by first | rfl | (simp only [nI_add, pk_mul]; first | done | rfl)) (by omega) (by omega) (fun c61_105 => ?_) (fun c61_105 => absurd c61_105 (by omega))
      refine AR.run g_X5_layBest_71_2 73 [some (.ref 16384), none, some (.int (nI (1)))] [.int (nI (1)), .ref 16384] _ [] rfl trivial ?_
      refine AR.callV1 (16384) [.int (nI (1))] [] lk_5_219 dc_X5_layBest_73 rfl rfl (s_5canPick _ 1 (by omega) (by rw [hu]; exact hv)) (by first | rfl | (simp only [nI_add, pk_mul]; first | done | rfl)) rfl ?_
      refine AR.eq (tgt := 20) dc_X5_layBest_76 (by decide) (fun c76_106 => absurd c76_106 c56_103) (fun c76_106 => ?_)
      refine AR.run g_X5_layBest_79_5 89 [some (.ref 16384), none, some (.int ((nI (1)) + (nI (1))))] [.int (-2), .int ((nI (1)) + (nI (1))), .ref 16393] _ [] rfl trivial ?_
      refine AR.ast (n := 0) (e := (1 + 1)) (h1 := (hp o0 a0 t0 p0 (mo z sa ro te fr to un ga (upd (upd p 1 (nI 11 - nI t)) (1 + 1) (-2)) b q en sta sv ln th hh) u0 l0)) ok_X5_layBest_89 (by first | rfl | (simp only [nI_add, pk_mul]; first | done | rfl)) rfl rfl (by omega) (by decide) rfl ?_
      refine AR.run g_X5_layBest_90_1 20 [some (.ref 16384), none, some (.int ((nI (1)) + (nI (1))))] [] _ [] rfl trivial ?_
      rw [hsub] at hK2
      refine AR.cast (L' := [some (.ref 16384), none, some (.int (nI (2)))]) (by first | rfl | (rw [nI_add])) rfl rfl ?_
      refine lb2 13 (upd (upd p 1 (nI 11 - nI t)) (1 + 1) (-2)) b q (by omega) (fun j hj => ?_) (by rw [upd_eq]; decide) ?_
      · rw [upd_ne (by omega)]
        by_cases hj2 : j = 1
        · rw [hj2, hu]; exact hv
        · rw [upd_ne hj2]; exact hq j (by omega)
      · refine ih _ _ _ (by omega) (fun j hj => ?_) ?_ hK2
        · rw [show (dv ga 2 (sub2 ga) 13 (upd (upd p 1 (nI 11 - nI t)) 2 (-2), b, q)).1 j = _ from (sub1_lo ga (upd p 1 (nI 11 - nI t), b, q) j (by omega))]; show QI 12 (upd p 1 (nI 11 - nI t) j); rw [upd_ne (by omega)]; exact hq j hj
        · exact (sub1_lo ga (upd p 1 (nI 11 - nI t), b, q) 1 (by omega)).trans hu
set_option maxRecDepth 100000 in
set_option maxHeartbeats 4000000 in
theorem lb0 {E : AE} {d : Nat} {o0 a0 t0 p0 u0 l0 : List AC} {z sa ro te fr to un ga : Nat → Int32} {en sta sv ln th : Int32} {hh : Int64} {o : AR0} {h' : AH} : ∀ (t : Nat) (p b : Nat → Int32) (q : Int32), t ≤ 13 → (∀ j, j < 0 → QI 12 (p j)) → p 0 = nI 11 - nI t → AR E M_X5_layBest (d + 5) 20 [some (.ref 16384), none, some (.int (-1))] [] (hp o0 a0 t0 p0 (mo z sa ro te fr to un ga ((dv ga 0 (sub0 ga) t (p, b, q)).1) ((dv ga 0 (sub0 ga) t (p, b, q)).2.1) ((dv ga 0 (sub0 ga) t (p, b, q)).2.2) en sta sv ln th hh) u0 l0) o h' 0 0 → AR E M_X5_layBest (d + 5) 20 [some (.ref 16384), none, some (.int (nI (0)))] [] (hp o0 a0 t0 p0 (mo z sa ro te fr to un ga p b q en sta sv ln th hh) u0 l0) o h' 0 0 := by
  intro t
  induction t with
  | zero =>
    intro p b q _ hq hd hK
    refine AR.run g_X5_layBest_20_1 21 [some (.ref 16384), none, some (.int (nI (0)))] [.int (nI (0))] _ [] rfl trivial ?_
    refine AR.ltN (tgt := 93) (a := 0) dc_X5_layBest_21 (by decide) (by first | rfl | (simp only [nI_add, pk_mul]; first | done | rfl)) (by omega) (fun c21_1 => absurd c21_1 (fun q => q)) (fun c21_1 => ?_)
    refine AR.run g_X5_layBest_24_3 29 [some (.ref 16384), none, some (.int (nI (0)))] [.int (nI (0)), .ref 16393] _ [] rfl trivial ?_
    refine AR.ald (n := 0) (e := 0) ok_X5_layBest_29 (by first | rfl | (simp only [nI_add, pk_mul]; first | done | rfl)) rfl (by omega) (by first | decide | omega) ?_
    refine AR.top hd ?_
    refine AR.run g_X5_layBest_30_1 32 [some (.ref 16384), none, some (.int (nI (0)))] [.int (nI (11)), .int (nI (11))] _ [] rfl trivial ?_
    refine AR.ne2N (tgt := 41) (a := 11) (b := 11) dc_X5_layBest_32 (by decide) (by first | rfl | (simp only [nI_add, pk_mul]; first | done | rfl)) (by first | rfl | (simp only [nI_add, pk_mul]; first | done | rfl)) (by omega) (by omega) (fun c32_2 => absurd c32_2 (by omega)) (fun c32_2 => ?_)
    refine AR.run g_X5_layBest_35_2 20 [some (.ref 16384), none, some (.int ((nI (0)) + (-1)))] [] _ [] rfl trivial ?_
    exact AR.cast (L' := [some (.ref 16384), none, some (.int (-1))]) (by first | rfl | (rw [nI_add]) | decide) rfl rfl hK
  | succ t ih =>
    intro p b q ht hq hd hK
    have hv := nI_v (t := t) (by omega)
    have hu : upd p 0 (nI 11 - nI t) 0 = nI 11 - nI t := upd_eq
    have hK2 : AR E M_X5_layBest (d + 5) 20 [some (.ref 16384), none, some (.int (-1))] [] (hp o0 a0 t0 p0 (mo z sa ro te fr to un ga ((dv ga 0 (sub0 ga) t (dst ga 0 (sub0 ga) t (p, b, q))).1) ((dv ga 0 (sub0 ga) t (dst ga 0 (sub0 ga) t (p, b, q))).2.1) ((dv ga 0 (sub0 ga) t (dst ga 0 (sub0 ga) t (p, b, q))).2.2) en sta sv ln th hh) u0 l0) o h' 0 0 := hK
    refine AR.run g_X5_layBest_20_1 21 [some (.ref 16384), none, some (.int (nI (0)))] [.int (nI (0))] _ [] rfl trivial ?_
    refine AR.ltN (tgt := 93) (a := 0) dc_X5_layBest_21 (by decide) (by first | rfl | (simp only [nI_add, pk_mul]; first | done | rfl)) (by omega) (fun c21_101 => absurd c21_101 (fun q => q)) (fun c21_101 => ?_)
    refine AR.run g_X5_layBest_24_3 29 [some (.ref 16384), none, some (.int (nI (0)))] [.int (nI (0)), .ref 16393] _ [] rfl trivial ?_
    refine AR.ald (n := 0) (e := 0) ok_X5_layBest_29 (by first | rfl | (simp only [nI_add, pk_mul]; first | done | rfl)) rfl (by omega) (by first | decide | omega) ?_
    refine AR.top hd ?_
    refine AR.run g_X5_layBest_30_1 32 [some (.ref 16384), none, some (.int (nI (0)))] [.int (nI (11)), .int ((nI 11 - nI (t + 1)))] _ [] rfl trivial ?_
    refine AR.ne2 (tgt := 41) dc_X5_layBest_32 (by decide) (fun c32_102 => ?_) (fun c32_102 => absurd c32_102 (nI_v11 (by omega)))
    refine AR.run g_X5_layBest_41_4 47 [some (.ref 16384), none, some (.int (nI (0)))] [.int (nI (0)), .ref 16393, .int (nI (0)), .ref 16393] _ [] rfl trivial ?_
    refine AR.ald (n := 0) (e := 0) ok_X5_layBest_47 (by first | rfl | (simp only [nI_add, pk_mul]; first | done | rfl)) rfl (by omega) (by first | decide | omega) ?_
    refine AR.top hd ?_
    refine AR.run g_X5_layBest_48_2 50 [some (.ref 16384), none, some (.int (nI (0)))] [.int ((nI 11 - nI (t + 1)) + (nI (1))), .int (nI (0)), .ref 16393] _ [] rfl trivial ?_
    refine AR.ast (n := 0) (e := 0) (h1 := (hp o0 a0 t0 p0 (mo z sa ro te fr to un ga (upd p 0 ((nI 11 - nI (t + 1)) + (nI (1)))) b q en sta sv ln th hh) u0 l0)) ok_X5_layBest_50 (by first | rfl | (simp only [nI_add, pk_mul]; first | done | rfl)) rfl rfl (by omega) (by decide) rfl ?_
    refine AR.cast (L' := [some (.ref 16384), none, some (.int (nI (0)))]) rfl rfl (by rw [i_nx]) ?_
    refine AR.run g_X5_layBest_51_2 53 [some (.ref 16384), none, some (.int (nI (0)))] [.int (nI (0)), .ref 16384] _ [] rfl trivial ?_
    refine AR.callV1 (16384) [.int (nI (0))] [] lk_5_219 dc_X5_layBest_53 rfl rfl (s_5canPick _ 0 (by omega) (by rw [hu]; exact hv)) (by first | rfl | (simp only [nI_add, pk_mul]; first | done | rfl)) rfl ?_
    refine AR.eq (tgt := 71) dc_X5_layBest_56 (by decide) (fun c56_103 => ?_) (fun c56_103 => ?_)
    · refine AR.run g_X5_layBest_71_2 73 [some (.ref 16384), none, some (.int (nI (0)))] [.int (nI (0)), .ref 16384] _ [] rfl trivial ?_
      refine AR.callV1 (16384) [.int (nI (0))] [] lk_5_219 dc_X5_layBest_73 rfl rfl (s_5canPick _ 0 (by omega) (by rw [hu]; exact hv)) (by first | rfl | (simp only [nI_add, pk_mul]; first | done | rfl)) rfl ?_
      refine AR.eq (tgt := 20) dc_X5_layBest_76 (by decide) (fun c76_104 => ?_) (fun c76_104 => absurd c76_104 (fun q => q c56_103))
      have hno : dst ga 0 (sub0 ga) t (p, b, q) = (upd p 0 (nI 11 - nI t), b, q) := if_pos (by assumption)
      rw [hno] at hK2
      exact ih (upd p 0 (nI 11 - nI t)) b q (by omega) (fun j hj => by rw [upd_ne (by omega)]; exact hq j hj) hu hK2
    · have hsub : dst ga 0 (sub0 ga) t (p, b, q) = sub0 ga (upd p 0 (nI 11 - nI t), b, q) := if_neg (by assumption)
      refine AR.run g_X5_layBest_59_2 61 [some (.ref 16384), none, some (.int (nI (0)))] [.int (nI (3)), .int (nI (0))] _ [] rfl trivial ?_
      refine AR.ne2N (tgt := 71) (a := 0) (b := 3) dc_X5_layBest_61 (by decide) (by first | rfl | (simp only [nI_add, pk_mul]; first | done | rfl)) (by first | rfl | (simp only [nI_add, pk_mul]; first | done | rfl)) (by omega) (by omega) (fun c61_105 => ?_) (fun c61_105 => absurd c61_105 (by omega))
      refine AR.run g_X5_layBest_71_2 73 [some (.ref 16384), none, some (.int (nI (0)))] [.int (nI (0)), .ref 16384] _ [] rfl trivial ?_
      refine AR.callV1 (16384) [.int (nI (0))] [] lk_5_219 dc_X5_layBest_73 rfl rfl (s_5canPick _ 0 (by omega) (by rw [hu]; exact hv)) (by first | rfl | (simp only [nI_add, pk_mul]; first | done | rfl)) rfl ?_
      refine AR.eq (tgt := 20) dc_X5_layBest_76 (by decide) (fun c76_106 => absurd c76_106 c56_103) (fun c76_106 => ?_)
      refine AR.run g_X5_layBest_79_5 89 [some (.ref 16384), none, some (.int ((nI (0)) + (nI (1))))] [.int (-2), .int ((nI (0)) + (nI (1))), .ref 16393] _ [] rfl trivial ?_
      refine AR.ast (n := 0) (e := (0 + 1)) (h1 := (hp o0 a0 t0 p0 (mo z sa ro te fr to un ga (upd (upd p 0 (nI 11 - nI t)) (0 + 1) (-2)) b q en sta sv ln th hh) u0 l0)) ok_X5_layBest_89 (by first | rfl | (simp only [nI_add, pk_mul]; first | done | rfl)) rfl rfl (by omega) (by decide) rfl ?_
      refine AR.run g_X5_layBest_90_1 20 [some (.ref 16384), none, some (.int ((nI (0)) + (nI (1))))] [] _ [] rfl trivial ?_
      rw [hsub] at hK2
      refine AR.cast (L' := [some (.ref 16384), none, some (.int (nI (1)))]) (by first | rfl | (rw [nI_add])) rfl rfl ?_
      refine lb1 13 (upd (upd p 0 (nI 11 - nI t)) (0 + 1) (-2)) b q (by omega) (fun j hj => ?_) (by rw [upd_eq]; decide) ?_
      · rw [upd_ne (by omega)]
        by_cases hj2 : j = 0
        · rw [hj2, hu]; exact hv
        · rw [upd_ne hj2]; exact hq j (by omega)
      · refine ih _ _ _ (by omega) (fun j hj => ?_) ?_ hK2
        · rw [show (dv ga 1 (sub1 ga) 13 (upd (upd p 0 (nI 11 - nI t)) 1 (-2), b, q)).1 j = _ from (sub0_lo ga (upd p 0 (nI 11 - nI t), b, q) j (by omega))]; show QI 12 (upd p 0 (nI 11 - nI t) j); rw [upd_ne (by omega)]; exact hq j hj
        · exact (sub0_lo ga (upd p 0 (nI 11 - nI t), b, q) 0 (by omega)).trans hu
def F_5layBest_ga (m : Nat) (nv : Nat) (nc : Nat) (z : Nat → Int32) (ga : Nat → Int32) : Nat → Int32 := (F_5layGains_ga m nv nc z ga)
def F_5layBest_pi (m : Nat) (nv : Nat) (nc : Nat) (z : Nat → Int32) (ga : Nat → Int32) (pi : Nat → Int32) (be : Nat → Int32) : Nat → Int32 := ((sg0 (F_5layGains_ga m nv nc z ga) pi be).1)
def F_5layBest_be (m : Nat) (nv : Nat) (nc : Nat) (z : Nat → Int32) (ga : Nat → Int32) (pi : Nat → Int32) (be : Nat → Int32) : Nat → Int32 := ((sg0 (F_5layGains_ga m nv nc z ga) pi be).2.1)
def F_5layBest_bm (m : Nat) (nv : Nat) (nc : Nat) (z : Nat → Int32) (ga : Nat → Int32) (pi : Nat → Int32) (be : Nat → Int32) : Int32 := ((sg0 (F_5layGains_ga m nv nc z ga) pi be).2.2)
theorem g_X5_layBest_0_2 : ab_oks M_X5_layBest [(0, .aload_n 0, 1, 0, 0, 0, .null), (1, .iload_n 1, 1, 1, 0, 0, .null)] = true := by decide +kernel
theorem lk_5_215 : ab_lkV "LeafCradlesModel" 215 M_X5_layGains 1 [1281, 1283, 79, 97, 1284] = true := by decide +kernel
theorem dc_X5_layBest_2 : decode (AM.bytes M_X5_layBest) 2 = .ok (.invokevirtual 215, 3) := by decide +kernel
theorem g_X5_layBest_5_9 : ab_oks M_X5_layBest [(5, .aload_n 0, 1, 0, 0, 0, .null), (6, .iconst (-1), 1, 0, 0, 0, .int (-1)), (7, .putfield 212, 3, 5, 10, 940, .null), (10, .iconst 0, 1, 0, 0, 0, .int (nI (0))), (11, .istore_n 2, 1, 2, 0, 0, .null), (12, .aload_n 0, 1, 0, 0, 0, .null), (13, .getfield 34, 3, 5, 8, 938, .null), (16, .iconst 0, 1, 0, 0, 0, .int (nI (0))), (17, .bipush (-2), 2, 0, 0, 0, .int (-2))] = true := by decide +kernel
theorem ok_X5_layBest_19 : ab_ok M_X5_layBest (19, .iastore, 1, 0, 0, 0, .null) = true := by decide +kernel
theorem dc_X5_layBest_93 : decode (AM.bytes M_X5_layBest) 93 = .ok (.return_, 1) := by decide +kernel
set_option maxRecDepth 100000 in
set_option maxHeartbeats 4000000 in
theorem s_5layBest {E : AE} (d : Nat) (m : Nat) {nv : Nat} {nc : Nat} {nr : Nat} {ne : Nat}  {o0 a0 t0 p0 u0 l0 : List AC} {z sa ro te fr to un ga pi be : Nat → Int32} {bm en sta sv ln th : Int32} {hh : Int64} (hZ : ZI z nv nc nr ne) (hm : m ≤ 500) (hm1 : 1 ≤ m) : CT E M_X5_layBest (d + 5) [.ref 16384, .int (nI (m))] (hp o0 a0 t0 p0 (mo z sa ro te fr to un ga pi be bm en sta sv ln th hh) u0 l0) (.inl none) (hp o0 a0 t0 p0 (mo z sa ro te fr to un (F_5layBest_ga m nv nc z ga) (F_5layBest_pi m nv nc z ga pi be) (F_5layBest_be m nv nc z ga pi be) (F_5layBest_bm m nv nc z ga pi be) en sta sv ln th hh) u0 l0) 0 0 := by
  obtain ⟨⟨hnv, h12⟩, ⟨hnc, h4⟩, ⟨hnr, h3⟩, ⟨hne, h60⟩, hLV⟩ := id hZ
  refine CT.of (L := [some (.ref 16384), some (.int (nI (m))), none]) rfl rfl ?_
  refine AR.run g_X5_layBest_0_2 2 [some (.ref 16384), some (.int (nI (m))), none] [.int (nI (m)), .ref 16384] _ [] rfl trivial ?_
  refine AR.callV0 (16384) [.int (nI (m))] [] lk_5_215 dc_X5_layBest_2 rfl rfl (s_5layGains _ m (by assumption) (by omega) (by omega)) (by first | rfl | (simp only [nI_add, pk_mul]; first | done | rfl)) rfl ?_
  refine AR.run g_X5_layBest_5_9 19 [some (.ref 16384), some (.int (nI (m))), some (.int (nI (0)))] [.int (-2), .int (nI (0)), .ref 16393] (hp o0 a0 t0 p0 (mo z sa ro te fr to un (F_5layGains_ga m nv nc z ga) pi be (-1) en sta sv ln th hh) u0 l0) [] rfl trivial ?_
  refine AR.ast (n := 0) (e := 0) (h1 := (hp o0 a0 t0 p0 (mo z sa ro te fr to un (F_5layGains_ga m nv nc z ga) (upd pi 0 (-2)) be (-1) en sta sv ln th hh) u0 l0)) ok_X5_layBest_19 (by first | rfl | (simp only [nI_add, pk_mul]; first | done | rfl)) rfl rfl (by omega) (by decide) rfl ?_
  refine AR.drop (L' := [some (.ref 16384), none, some (.int (nI (0)))]) ⟨rfl, rfl, trivial⟩ ?_
  unfold F_5layBest_pi F_5layBest_be F_5layBest_bm
  refine lb0 (ga := F_5layGains_ga m nv nc z ga) 13 (upd pi 0 (-2)) be (-1) (by omega) (fun j hj => by omega) (by rw [upd_eq]; decide) ?_
  refine AR.run g_X5_layBest_20_1 21 [some (.ref 16384), none, some (.int (-1))] [.int (-1)] _ [] rfl trivial ?_
  refine AR.lt (tgt := 93) dc_X5_layBest_21 (by decide) (fun c21_1 => ?_) (fun c21_1 => absurd c21_1 (by decide))
  exact AR.retV dc_X5_layBest_93 rfl rfl
end
section
theorem g_Jxe99ae_isNaN_b9ae7_0_3 : ab_oks M_Jxe99ae_isNaN_b9ae7 [(0, .dload_n 0, 1, 0, 0, 0, .null), (1, .dload_n 0, 1, 0, 0, 0, .null), (2, .dcmp .l, 1, 0, 0, 0, .null)] = true := by decide +kernel
theorem dc_Jxe99ae_isNaN_b9ae7_3 : decode (AM.bytes M_Jxe99ae_isNaN_b9ae7) 3 = .ok (.ifCond .eq 7, 3) := by decide +kernel
theorem g_Jxe99ae_isNaN_b9ae7_10_1 : ab_oks M_Jxe99ae_isNaN_b9ae7 [(10, .iconst 0, 1, 0, 0, 0, .int (nI (0)))] = true := by decide +kernel
theorem dc_Jxe99ae_isNaN_b9ae7_11 : decode (AM.bytes M_Jxe99ae_isNaN_b9ae7) 11 = .ok (.ireturn, 1) := by decide +kernel
set_option maxRecDepth 100000 in
set_option maxHeartbeats 4000000 in
theorem s_LisNaN_b9ae7 {E : AE} (d : Nat) (v : UInt64)  {h : AH} (hv : Op.cmpValue (FP.dcmp v v) .l = 0) : CT E M_Jxe99ae_isNaN_b9ae7 d [.double (v)] h (.inl (some (.int (nI (0))))) h 0 0 := by
  refine CT.of (L := [some (.double (v)), none]) rfl rfl ?_
  refine AR.run g_Jxe99ae_isNaN_b9ae7_0_3 3 [some (.double (v)), none] [.int (Op.cmpValue (FP.dcmp v v) .l)] _ [] rfl trivial ?_
  refine AR.eq (tgt := 10) dc_Jxe99ae_isNaN_b9ae7_3 (by decide) (fun c3_1 => ?_) (fun c3_1 => absurd c3_1 (fun q => q hv))
  refine AR.run g_Jxe99ae_isNaN_b9ae7_10_1 11 [some (.double (v)), none] [.int (nI (0))] _ [] rfl trivial ?_
  exact AR.retZ dc_Jxe99ae_isNaN_b9ae7_11 rfl (Or.inl rfl) rfl rfl
theorem g_Jxe99ae_doubleToLongBits_ccdee_0_1 : ab_oks M_Jxe99ae_doubleToLongBits_ccdee [(0, .dload_n 0, 1, 0, 0, 0, .null)] = true := by decide +kernel
theorem lk_J_122 : ab_lkS "java/lang/Double" 122 M_Jxe99ae_isNaN_b9ae7 1 [1338, 1339, 105, 1340] = true := by decide +kernel
theorem dc_Jxe99ae_doubleToLongBits_ccdee_1 : decode (AM.bytes M_Jxe99ae_doubleToLongBits_ccdee) 1 = .ok (.invokestatic 122, 3) := by decide +kernel
theorem dc_Jxe99ae_doubleToLongBits_ccdee_4 : decode (AM.bytes M_Jxe99ae_doubleToLongBits_ccdee) 4 = .ok (.ifCond .ne 8, 3) := by decide +kernel
theorem g_Jxe99ae_doubleToLongBits_ccdee_7_2 : ab_oks M_Jxe99ae_doubleToLongBits_ccdee [(7, .dload_n 0, 1, 0, 0, 0, .null), (8, .invokestatic 134, 3, 6, 0, 1341, .null)] = true := by decide +kernel
theorem dc_Jxe99ae_doubleToLongBits_ccdee_11 : decode (AM.bytes M_Jxe99ae_doubleToLongBits_ccdee) 11 = .ok (.lreturn, 1) := by decide +kernel
set_option maxRecDepth 100000 in
set_option maxHeartbeats 4000000 in
theorem s_LdoubleToLongBits_ccdee {E : AE} (d : Nat) (v : UInt64)  {h : AH} (hv : Op.cmpValue (FP.dcmp v v) .l = 0) : CT E M_Jxe99ae_doubleToLongBits_ccdee (d + 1) [.double (v)] h (.inl (some (.long (v.toInt64)))) h 0 0 := by
  refine CT.of (L := [some (.double (v)), none]) rfl rfl ?_
  refine AR.run g_Jxe99ae_doubleToLongBits_ccdee_0_1 1 [some (.double (v)), none] [.double (v)] _ [] rfl trivial ?_
  refine AR.callS1 [.double (v)] [] lk_J_122 dc_Jxe99ae_doubleToLongBits_ccdee_1 (s_LisNaN_b9ae7 _ v (by assumption)) (by first | rfl | (simp only [nI_add, pk_mul]; first | done | rfl)) rfl ?_
  refine AR.neN (tgt := 12) (a := 0) dc_Jxe99ae_doubleToLongBits_ccdee_4 (by decide) (by first | rfl | (simp only [nI_add, pk_mul]; first | done | rfl)) (by omega) (fun c4_1 => absurd c4_1 (by omega)) (fun c4_1 => ?_)
  refine AR.run g_Jxe99ae_doubleToLongBits_ccdee_7_2 11 [some (.double (v)), none] [.long (v.toInt64)] _ [] rfl trivial ?_
  exact AR.retL dc_Jxe99ae_doubleToLongBits_ccdee_11 rfl rfl rfl
def B_5mixAhead_17 (nv : Nat) (nc : Nat) (z : Nat → Int32) (ga : Nat → Int32) (pi : Nat → Int32) (be : Nat → Int32) (j17 : Nat) (y17_hh : Int64) : (Int64) := (F_5mix_hh ((F_5bestNow j17 (F_5layBest_be 20 nv nc z ga pi be) (F_5layBest_bm 20 nv nc z ga pi be)).toInt64) y17_hh)
def L_5mixAhead_17 (nv : Nat) (nc : Nat) (nr : Nat) (z : Nat → Int32) (sa : Nat → Int32) (ga : Nat → Int32) (pi : Nat → Int32) (be : Nat → Int32) (hh : Int64) : Nat → (Int64)
  | 0 => F_5mix_hh ((F_5doneNow nv nc nr z sa).toInt64) hh
  | j + 1 => B_5mixAhead_17 nv nc z ga pi be j (L_5mixAhead_17 nv nc nr z sa ga pi be hh  j)
def F_5mixAhead_sa (z : Nat → Int32) (sa : Nat → Int32) : Nat → Int32 := (F_5doneNow_sa z sa)
def F_5mixAhead_ga (nv : Nat) (nc : Nat) (z : Nat → Int32) (ga : Nat → Int32) : Nat → Int32 := (F_5layBest_ga 20 nv nc z ga)
def F_5mixAhead_pi (nv : Nat) (nc : Nat) (z : Nat → Int32) (ga : Nat → Int32) (pi : Nat → Int32) (be : Nat → Int32) : Nat → Int32 := (F_5layBest_pi 20 nv nc z ga pi be)
def F_5mixAhead_be (nv : Nat) (nc : Nat) (z : Nat → Int32) (ga : Nat → Int32) (pi : Nat → Int32) (be : Nat → Int32) : Nat → Int32 := (F_5layBest_be 20 nv nc z ga pi be)
def F_5mixAhead_bm (nv : Nat) (nc : Nat) (z : Nat → Int32) (ga : Nat → Int32) (pi : Nat → Int32) (be : Nat → Int32) : Int32 := (F_5layBest_bm 20 nv nc z ga pi be)
def F_5mixAhead_hh (nv : Nat) (nc : Nat) (nr : Nat) (z : Nat → Int32) (sa : Nat → Int32) (ga : Nat → Int32) (pi : Nat → Int32) (be : Nat → Int32) (sv : Int32) (hh : Int64) : Int64 := (F_5mix_hh ((F_5openNow nv nc z sv).toInt64) (L_5mixAhead_17 nv nc nr z sa ga pi be hh 5))
theorem g_X5_mixAhead_0_2 : ab_oks M_X5_mixAhead [(0, .aload_n 0, 1, 0, 0, 0, .null), (1, .aload_n 0, 1, 0, 0, 0, .null)] = true := by decide +kernel
theorem lk_5_197 : ab_lkV "LeafCradlesModel" 197 M_X5_doneNow 0 [1257, 1259, 75, 97, 1260] = true := by decide +kernel
theorem dc_X5_mixAhead_2 : decode (AM.bytes M_X5_mixAhead) 2 = .ok (.invokevirtual 197, 3) := by decide +kernel
theorem g_X5_mixAhead_5_1 : ab_oks M_X5_mixAhead [(5, .i2l, 1, 0, 0, 0, .null)] = true := by decide +kernel
theorem dc_X5_mixAhead_6 : decode (AM.bytes M_X5_mixAhead) 6 = .ok (.invokevirtual 241, 3) := by decide +kernel
theorem g_X5_mixAhead_9_2 : ab_oks M_X5_mixAhead [(9, .aload_n 0, 1, 0, 0, 0, .null), (10, .bipush 20, 2, 0, 0, 0, .int (nI (20)))] = true := by decide +kernel
theorem lk_5_225 : ab_lkV "LeafCradlesModel" 225 M_X5_layBest 1 [1277, 1279, 78, 97, 1280] = true := by decide +kernel
theorem dc_X5_mixAhead_12 : decode (AM.bytes M_X5_mixAhead) 12 = .ok (.invokevirtual 225, 3) := by decide +kernel
theorem g_X5_mixAhead_15_2 : ab_oks M_X5_mixAhead [(15, .iconst 0, 1, 0, 0, 0, .int (nI (0))), (16, .istore_n 1, 1, 1, 0, 0, .null)] = true := by decide +kernel
theorem g_X5_mixAhead_17_2 : ab_oks M_X5_mixAhead [(17, .iload_n 1, 1, 1, 0, 0, .null), (18, .iconst 5, 1, 0, 0, 0, .int (nI (5)))] = true := by decide +kernel
theorem dc_X5_mixAhead_19 : decode (AM.bytes M_X5_mixAhead) 19 = .ok (.if_icmp .ge 19, 3) := by decide +kernel
theorem g_X5_mixAhead_22_3 : ab_oks M_X5_mixAhead [(22, .aload_n 0, 1, 0, 0, 0, .null), (23, .aload_n 0, 1, 0, 0, 0, .null), (24, .iload_n 1, 1, 1, 0, 0, .null)] = true := by decide +kernel
theorem lk_5_228 : ab_lkV "LeafCradlesModel" 228 M_X5_bestNow 1 [1305, 1307, 85, 97, 1308] = true := by decide +kernel
theorem dc_X5_mixAhead_25 : decode (AM.bytes M_X5_mixAhead) 25 = .ok (.invokevirtual 228, 3) := by decide +kernel
theorem g_X5_mixAhead_28_1 : ab_oks M_X5_mixAhead [(28, .i2l, 1, 0, 0, 0, .null)] = true := by decide +kernel
theorem dc_X5_mixAhead_29 : decode (AM.bytes M_X5_mixAhead) 29 = .ok (.invokevirtual 241, 3) := by decide +kernel
theorem g_X5_mixAhead_32_2 : ab_oks M_X5_mixAhead [(32, .iinc 1 1, 3, 1, 0, 0, .int (nI (1))), (35, .goto (-18), 3, 17, 0, 0, .null)] = true := by decide +kernel
theorem g_X5_mixAhead_38_2 : ab_oks M_X5_mixAhead [(38, .aload_n 0, 1, 0, 0, 0, .null), (39, .aload_n 0, 1, 0, 0, 0, .null)] = true := by decide +kernel
theorem lk_5_231 : ab_lkV "LeafCradlesModel" 231 M_X5_openNow 0 [1313, 1315, 86, 97, 1316] = true := by decide +kernel
theorem dc_X5_mixAhead_40 : decode (AM.bytes M_X5_mixAhead) 40 = .ok (.invokevirtual 231, 3) := by decide +kernel
theorem lk_5_245 : ab_lkS "LeafCradlesModel" 245 M_Jxe99ae_doubleToLongBits_ccdee 1 [1335, 1336, 105, 1337] = true := by decide +kernel
theorem dc_X5_mixAhead_43 : decode (AM.bytes M_X5_mixAhead) 43 = .ok (.invokestatic 245, 3) := by decide +kernel
theorem dc_X5_mixAhead_46 : decode (AM.bytes M_X5_mixAhead) 46 = .ok (.invokevirtual 241, 3) := by decide +kernel
theorem dc_X5_mixAhead_49 : decode (AM.bytes M_X5_mixAhead) 49 = .ok (.return_, 1) := by decide +kernel
set_option maxRecDepth 100000 in
set_option maxHeartbeats 4000000 in
theorem s_5mixAhead {E : AE} (d : Nat) {nv : Nat} {nc : Nat} {nr : Nat} {ne : Nat}  {o0 a0 t0 p0 u0 l0 : List AC} {z sa ro te fr to un ga pi be : Nat → Int32} {bm en sta sv ln th : Int32} {hh : Int64} (hZ : ZI z nv nc nr ne) (hnan : vf_n64 (FP.ddiv (FP.i2d (L_5overAll_4 9 z nv)) (FP.i2d (L_5overAll_4 2 z nv)))) (hnn : Op.cmpValue (FP.dcmp (F_5openNow nv nc z sv) (F_5openNow nv nc z sv)) .l = 0) : CT E M_X5_mixAhead (d + 7) [.ref 16384] (hp o0 a0 t0 p0 (mo z sa ro te fr to un ga pi be bm en sta sv ln th hh) u0 l0) (.inl none) (hp o0 a0 t0 p0 (mo z (F_5mixAhead_sa z sa) ro te fr to un (F_5mixAhead_ga nv nc z ga) (F_5mixAhead_pi nv nc z ga pi be) (F_5mixAhead_be nv nc z ga pi be) (F_5mixAhead_bm nv nc z ga pi be) en sta sv ln th (F_5mixAhead_hh nv nc nr z sa ga pi be sv hh)) u0 l0) 0 0 := by
  obtain ⟨⟨hnv, h12⟩, ⟨hnc, h4⟩, ⟨hnr, h3⟩, ⟨hne, h60⟩, hLV⟩ := id hZ
  refine CT.of (L := [some (.ref 16384), none]) rfl rfl ?_
  refine AR.run g_X5_mixAhead_0_2 2 [some (.ref 16384), none] [.ref 16384, .ref 16384] _ [] rfl trivial ?_
  refine AR.callV1 (16384) [] [.ref 16384] lk_5_197 dc_X5_mixAhead_2 rfl rfl ((CT.hp (k := (hp o0 a0 t0 p0 (mo z (F_5doneNow_sa z sa) ro te fr to un ga pi be bm en sta sv ln th hh) u0 l0)) (s_5doneNow _  (by assumption)) (by rw [dN_back hZ]))) (by first | rfl | (simp only [nI_add, pk_mul]; first | done | rfl)) rfl ?_
  refine AR.run g_X5_mixAhead_5_1 6 [some (.ref 16384), none] [.long ((F_5doneNow nv nc nr z sa).toInt64), .ref 16384] _ [] rfl trivial ?_
  refine AR.callV0 (16384) [.long ((F_5doneNow nv nc nr z sa).toInt64)] [] lk_5_241 dc_X5_mixAhead_6 rfl rfl (s_5mix _ ((F_5doneNow nv nc nr z sa).toInt64) ) (by first | rfl | (simp only [nI_add, pk_mul]; first | done | rfl)) rfl ?_
  refine AR.run g_X5_mixAhead_9_2 12 [some (.ref 16384), none] [.int (nI (20)), .ref 16384] _ [] rfl trivial ?_
  refine AR.callV0 (16384) [.int (nI (20))] [] lk_5_225 dc_X5_mixAhead_12 rfl rfl (s_5layBest _ 20 (by assumption) (by omega) (by omega)) (by first | rfl | (simp only [nI_add, pk_mul]; first | done | rfl)) rfl ?_
  refine AR.run g_X5_mixAhead_15_2 17 [some (.ref 16384), some (.int (nI (0)))] [] _ [] rfl trivial ?_
  refine AR.cast (L' := [some (.ref 16384), some (.int (nI (0)))]) (by first | rfl | (rw [L_5mixAhead_17])) rfl (by first | rfl | (rw [L_5mixAhead_17])) (AR.loopN 5 (fun j17 => [some (.ref 16384), some (.int (nI (j17)))]) (fun j17 => (hp o0 a0 t0 p0 (mo z (F_5doneNow_sa z sa) ro te fr to un (F_5layBest_ga 20 nv nc z ga) (F_5layBest_pi 20 nv nc z ga pi be) (F_5layBest_be 20 nv nc z ga pi be) (F_5layBest_bm 20 nv nc z ga pi be) en sta sv ln th (L_5mixAhead_17 nv nc nr z sa ga pi be hh j17)) u0 l0)) (fun j17 => True) (fun j17 hj17 hI17 ih17 => ?_) (fun hI17 => ?_) 0 (by omega) (by first | trivial | omega))
  · refine AR.run g_X5_mixAhead_17_2 19 [some (.ref 16384), some (.int (nI (j17)))] [.int (nI (5)), .int (nI (j17))] _ [] rfl trivial ?_
    refine AR.ge2N (tgt := 38) (a := j17) (b := 5) dc_X5_mixAhead_19 (by decide) (by first | rfl | (simp only [nI_add, pk_mul]; first | done | rfl)) (by first | rfl | (simp only [nI_add, pk_mul]; first | done | rfl)) (by omega) (by omega) (fun c19_1 => absurd c19_1 (by omega)) (fun c19_1 => ?_)
    refine AR.run g_X5_mixAhead_22_3 25 [some (.ref 16384), some (.int (nI (j17)))] [.int (nI (j17)), .ref 16384, .ref 16384] _ [] rfl trivial ?_
    refine AR.callV1 (16384) [.int (nI (j17))] [.ref 16384] lk_5_228 dc_X5_mixAhead_25 rfl rfl (s_5bestNow _ j17 (by omega)) (by first | rfl | (simp only [nI_add, pk_mul]; first | done | rfl)) rfl ?_
    refine AR.run g_X5_mixAhead_28_1 29 [some (.ref 16384), some (.int (nI (j17)))] [.long ((F_5bestNow j17 (F_5layBest_be 20 nv nc z ga pi be) (F_5layBest_bm 20 nv nc z ga pi be)).toInt64), .ref 16384] _ [] rfl trivial ?_
    refine AR.callV0 (16384) [.long ((F_5bestNow j17 (F_5layBest_be 20 nv nc z ga pi be) (F_5layBest_bm 20 nv nc z ga pi be)).toInt64)] [] lk_5_241 dc_X5_mixAhead_29 rfl rfl (s_5mix _ ((F_5bestNow j17 (F_5layBest_be 20 nv nc z ga pi be) (F_5layBest_bm 20 nv nc z ga pi be)).toInt64) ) (by first | rfl | (simp only [nI_add, pk_mul]; first | done | rfl)) rfl ?_
    refine AR.run g_X5_mixAhead_32_2 17 [some (.ref 16384), some (.int ((nI (j17)) + (nI (1))))] [] _ [] rfl trivial ?_
    have e2 : L_5mixAhead_17 nv nc nr z sa ga pi be hh (j17 + 1) = (F_5mix_hh ((F_5bestNow j17 (F_5layBest_be 20 nv nc z ga pi be) (F_5layBest_bm 20 nv nc z ga pi be)).toInt64) (L_5mixAhead_17 nv nc nr z sa ga pi be hh j17)) := by rw [L_5mixAhead_17, B_5mixAhead_17]
    exact AR.cast (L' := [some (.ref 16384), some (.int (nI (j17 + 1)))]) (by first | rfl | rw [nI_add]) rfl (by rw [e2]) (ih17 (by first | trivial | omega))
  · refine AR.run g_X5_mixAhead_17_2 19 [some (.ref 16384), some (.int (nI (5)))] [.int (nI (5)), .int (nI (5))] _ [] rfl trivial ?_
    refine AR.ge2N (tgt := 38) (a := 5) (b := 5) dc_X5_mixAhead_19 (by decide) (by first | rfl | (simp only [nI_add, pk_mul]; first | done | rfl)) (by first | rfl | (simp only [nI_add, pk_mul]; first | done | rfl)) (by omega) (by omega) (fun c19_3 => ?_) (fun c19_3 => absurd c19_3 (by omega))
    refine AR.run g_X5_mixAhead_38_2 40 [some (.ref 16384), some (.int (nI (5)))] [.ref 16384, .ref 16384] _ [] rfl trivial ?_
    refine AR.callV1 (16384) [] [.ref 16384] lk_5_231 dc_X5_mixAhead_40 rfl rfl (s_5openNow _  (by assumption) (by assumption)) (by first | rfl | (simp only [nI_add, pk_mul]; first | done | rfl)) rfl ?_
    refine AR.callS1 [.double (F_5openNow nv nc z sv)] [.ref 16384] lk_5_245 dc_X5_mixAhead_43 (s_LdoubleToLongBits_ccdee _ (F_5openNow nv nc z sv) (by assumption)) (by first | rfl | (simp only [nI_add, pk_mul]; first | done | rfl)) rfl ?_
    refine AR.callV0 (16384) [.long ((F_5openNow nv nc z sv).toInt64)] [] lk_5_241 dc_X5_mixAhead_46 rfl rfl (s_5mix _ ((F_5openNow nv nc z sv).toInt64) ) (by first | rfl | (simp only [nI_add, pk_mul]; first | done | rfl)) rfl ?_
    have e4_0 : F_5mixAhead_sa z sa = (F_5doneNow_sa z sa) := by rw [F_5mixAhead_sa]
    have e4_1 : F_5mixAhead_ga nv nc z ga = (F_5layBest_ga 20 nv nc z ga) := by rw [F_5mixAhead_ga]
    have e4_2 : F_5mixAhead_pi nv nc z ga pi be = (F_5layBest_pi 20 nv nc z ga pi be) := by rw [F_5mixAhead_pi]
    have e4_3 : F_5mixAhead_be nv nc z ga pi be = (F_5layBest_be 20 nv nc z ga pi be) := by rw [F_5mixAhead_be]
    have e4_4 : F_5mixAhead_bm nv nc z ga pi be = (F_5layBest_bm 20 nv nc z ga pi be) := by rw [F_5mixAhead_bm]
    have e4_5 : F_5mixAhead_hh nv nc nr z sa ga pi be sv hh = (F_5mix_hh ((F_5openNow nv nc z sv).toInt64) (L_5mixAhead_17 nv nc nr z sa ga pi be hh 5)) := by rw [F_5mixAhead_hh]
    exact AR.retV dc_X5_mixAhead_49 rfl (by rw [e4_0, e4_1, e4_2, e4_3, e4_4, e4_5])
def B_5digest_14 (nv : Nat) (nc : Nat) (z : Nat → Int32) (sv : Int32) (j14 : Nat) (y14_hh : Int64) : (Int64) := (F_5mix_hh ((F_5counted j14 nv nc z sv).toInt64) y14_hh)
def L_5digest_14 (nv : Nat) (nc : Nat) (z : Nat → Int32) (sv : Int32) : Nat → (Int64)
  | 0 => 2341
  | j + 1 => B_5digest_14 nv nc z sv j (L_5digest_14 nv nc z sv  j)
def B_5digest_38 (z : Nat → Int32) (j38 : Nat) (y38_hh : Int64) : (Int64) := (F_5mix_hh ((z (7 + j38)).toInt64) y38_hh)
def L_5digest_38 (nv : Nat) (nc : Nat) (z : Nat → Int32) (sv : Int32) : Nat → (Int64)
  | 0 => L_5digest_14 nv nc z sv 14
  | j + 1 => B_5digest_38 z j (L_5digest_38 nv nc z sv  j)
def B_5digest_65 (nr : Nat) (ne : Nat) (z : Nat → Int32) (j65 : Nat) (y65_hh : Int64) : (Int64) := (F_5mixVolume_hh j65 nr ne z y65_hh)
def L_5digest_65 (nv : Nat) (nc : Nat) (nr : Nat) (ne : Nat) (z : Nat → Int32) (sv : Int32) : Nat → (Int64)
  | 0 => L_5digest_38 nv nc z sv 4
  | j + 1 => B_5digest_65 nr ne z j (L_5digest_65 nv nc nr ne z sv  j)
def B_5digest_100 (nv : Nat) (z : Nat → Int32) (j88 : Nat) (j100 : Nat) (y100_hh : Int64) : (Int64) := (F_5mix_hh ((F_5cradleNow j88 j100 nv z).toInt64) y100_hh)
def L_5digest_100 (nv : Nat) (z : Nat → Int32) (j88 : Nat) (y88_hh : Int64) : Nat → (Int64)
  | 0 => y88_hh
  | j + 1 => B_5digest_100 nv z j88 j (L_5digest_100 nv z j88 y88_hh  j)
def B_5digest_88 (nv : Nat) (nc : Nat) (nr : Nat) (z : Nat → Int32) (j88 : Nat) (y88_hh : Int64) (y88_sa : Nat → Int32) : (Int64) × (Nat → Int32) := (F_5mix_hh ((F_5passedNow 30 (nI (j88)) nv nc nr z).toInt64) (L_5digest_100 nv z j88 y88_hh 6), F_5passedNow_sa z y88_sa)
def L_5digest_88 (nv : Nat) (nc : Nat) (nr : Nat) (ne : Nat) (z : Nat → Int32) (sa : Nat → Int32) (sv : Int32) : Nat → (Int64) × (Nat → Int32)
  | 0 => (L_5digest_65 nv nc nr ne z sv nv, sa)
  | j + 1 => B_5digest_88 nv nc nr z j ((L_5digest_88 nv nc nr ne z sa sv  j).1) ((L_5digest_88 nv nc nr ne z sa sv  j).2)
def B_5digest_155 (z : Nat → Int32) (j143 : Nat) (j155 : Nat) (y155_hh : Int64) : (Int64) := (F_5mix_hh ((z (111 + 4 * j143 + j155)).toInt64) y155_hh)
def L_5digest_155 (z : Nat → Int32) (j143 : Nat) (y143_hh : Int64) : Nat → (Int64)
  | 0 => y143_hh
  | j + 1 => B_5digest_155 z j143 j (L_5digest_155 z j143 y143_hh  j)
def B_5digest_143 (z : Nat → Int32) (j143 : Nat) (y143_hh : Int64) : (Int64) := (L_5digest_155 z j143 y143_hh 4)
def L_5digest_143 (nv : Nat) (nc : Nat) (nr : Nat) (ne : Nat) (z : Nat → Int32) (sa : Nat → Int32) (sv : Int32) : Nat → (Int64)
  | 0 => (L_5digest_88 nv nc nr ne z sa sv nc).1
  | j + 1 => B_5digest_143 z j (L_5digest_143 nv nc nr ne z sa sv  j)
def B_5digest_185 (z : Nat → Int32) (j185 : Nat) (y185_hh : Int64) : (Int64) := (F_5mix_hh ((z (123 + j185)).toInt64) y185_hh)
def L_5digest_185 (nv : Nat) (nc : Nat) (nr : Nat) (ne : Nat) (z : Nat → Int32) (sa : Nat → Int32) (sv : Int32) : Nat → (Int64)
  | 0 => L_5digest_143 nv nc nr ne z sa sv nr
  | j + 1 => B_5digest_185 z j (L_5digest_185 nv nc nr ne z sa sv  j)
def B_5digest_232 (te : Nat → Int32) (j232 : Nat) (y232_hh : Int64) : (Int64) := (F_5mix_hh ((te j232).toInt64) y232_hh)
def L_5digest_232 (nv : Nat) (nc : Nat) (nr : Nat) (ne : Nat) (q : Nat) (z : Nat → Int32) (sa : Nat → Int32) (te : Nat → Int32) (ga : Nat → Int32) (pi : Nat → Int32) (be : Nat → Int32) (sv : Int32) : Nat → (Int64)
  | 0 => F_5mix_hh ((nI (q)).toInt64) (F_5mixAhead_hh nv nc nr z ((L_5digest_88 nv nc nr ne z sa sv nc).2) ga pi be sv (L_5digest_185 nv nc nr ne z sa sv (5 * ne)))
  | j + 1 => B_5digest_232 te j (L_5digest_232 nv nc nr ne q z sa te ga pi be sv  j)
def F_5digest (nv : Nat) (nc : Nat) (nr : Nat) (ne : Nat) (q : Nat) (z : Nat → Int32) (sa : Nat → Int32) (te : Nat → Int32) (ga : Nat → Int32) (pi : Nat → Int32) (be : Nat → Int32) (sv : Int32) : Int64 := (L_5digest_232 nv nc nr ne q z sa te ga pi be sv q)
def F_5digest_sa (nv : Nat) (nc : Nat) (nr : Nat) (ne : Nat) (z : Nat → Int32) (sa : Nat → Int32) (sv : Int32) : Nat → Int32 := (F_5mixAhead_sa z ((L_5digest_88 nv nc nr ne z sa sv nc).2))
def F_5digest_ga (nv : Nat) (nc : Nat) (z : Nat → Int32) (ga : Nat → Int32) : Nat → Int32 := (F_5mixAhead_ga nv nc z ga)
def F_5digest_pi (nv : Nat) (nc : Nat) (z : Nat → Int32) (ga : Nat → Int32) (pi : Nat → Int32) (be : Nat → Int32) : Nat → Int32 := (F_5mixAhead_pi nv nc z ga pi be)
def F_5digest_be (nv : Nat) (nc : Nat) (z : Nat → Int32) (ga : Nat → Int32) (pi : Nat → Int32) (be : Nat → Int32) : Nat → Int32 := (F_5mixAhead_be nv nc z ga pi be)
def F_5digest_bm (nv : Nat) (nc : Nat) (z : Nat → Int32) (ga : Nat → Int32) (pi : Nat → Int32) (be : Nat → Int32) : Int32 := (F_5mixAhead_bm nv nc z ga pi be)
def F_5digest_th : Int32 := (nI (0))
def F_5digest_hh (nv : Nat) (nc : Nat) (nr : Nat) (ne : Nat) (q : Nat) (z : Nat → Int32) (sa : Nat → Int32) (te : Nat → Int32) (ga : Nat → Int32) (pi : Nat → Int32) (be : Nat → Int32) (sv : Int32) : Int64 := (L_5digest_232 nv nc nr ne q z sa te ga pi be sv q)
theorem g_X5_digest_0_8 : ab_oks M_X5_digest [(0, .aload_n 0, 1, 0, 0, 0, .null), (1, .iconst 0, 1, 0, 0, 0, .int (nI (0))), (2, .putfield 40, 3, 5, 15, 945, .null), (5, .aload_n 0, 1, 0, 0, 0, .null), (6, .ldc2_w 251, 3, 0, 0, 1321, .long (2341)), (9, .putfield 237, 3, 5, 16, 946, .null), (12, .iconst 0, 1, 0, 0, 0, .int (nI (0))), (13, .istore_n 1, 1, 1, 0, 0, .null)] = true := by decide +kernel
theorem g_X5_digest_14_2 : ab_oks M_X5_digest [(14, .iload_n 1, 1, 1, 0, 0, .null), (15, .bipush 14, 2, 0, 0, 0, .int (nI (14)))] = true := by decide +kernel
theorem dc_X5_digest_17 : decode (AM.bytes M_X5_digest) 17 = .ok (.if_icmp .ge 19, 3) := by decide +kernel
theorem g_X5_digest_20_3 : ab_oks M_X5_digest [(20, .aload_n 0, 1, 0, 0, 0, .null), (21, .aload_n 0, 1, 0, 0, 0, .null), (22, .iload_n 1, 1, 1, 0, 0, .null)] = true := by decide +kernel
theorem dc_X5_digest_23 : decode (AM.bytes M_X5_digest) 23 = .ok (.invokevirtual 179, 3) := by decide +kernel
theorem g_X5_digest_26_1 : ab_oks M_X5_digest [(26, .i2l, 1, 0, 0, 0, .null)] = true := by decide +kernel
theorem dc_X5_digest_27 : decode (AM.bytes M_X5_digest) 27 = .ok (.invokevirtual 241, 3) := by decide +kernel
theorem g_X5_digest_30_2 : ab_oks M_X5_digest [(30, .iinc 1 1, 3, 1, 0, 0, .int (nI (1))), (33, .goto (-19), 3, 14, 0, 0, .null)] = true := by decide +kernel
theorem g_X5_digest_36_2 : ab_oks M_X5_digest [(36, .iconst 0, 1, 0, 0, 0, .int (nI (0))), (37, .istore_n 1, 1, 1, 0, 0, .null)] = true := by decide +kernel
theorem g_X5_digest_38_2 : ab_oks M_X5_digest [(38, .iload_n 1, 1, 1, 0, 0, .null), (39, .iconst 4, 1, 0, 0, 0, .int (nI (4)))] = true := by decide +kernel
theorem dc_X5_digest_40 : decode (AM.bytes M_X5_digest) 40 = .ok (.if_icmp .ge 23, 3) := by decide +kernel
theorem g_X5_digest_43_6 : ab_oks M_X5_digest [(43, .aload_n 0, 1, 0, 0, 0, .null), (44, .aload_n 0, 1, 0, 0, 0, .null), (45, .getfield 7, 3, 5, 0, 930, .null), (48, .bipush 7, 2, 0, 0, 0, .int (nI (7))), (50, .iload_n 1, 1, 1, 0, 0, .null), (51, .iadd, 1, 0, 0, 0, .null)] = true := by decide +kernel
theorem ok_X5_digest_52 : ab_ok M_X5_digest (52, .iaload, 1, 0, 0, 0, .null) = true := by decide +kernel
theorem g_X5_digest_53_1 : ab_oks M_X5_digest [(53, .i2l, 1, 0, 0, 0, .null)] = true := by decide +kernel
theorem dc_X5_digest_54 : decode (AM.bytes M_X5_digest) 54 = .ok (.invokevirtual 241, 3) := by decide +kernel
theorem g_X5_digest_57_2 : ab_oks M_X5_digest [(57, .iinc 1 1, 3, 1, 0, 0, .int (nI (1))), (60, .goto (-22), 3, 38, 0, 0, .null)] = true := by decide +kernel
theorem g_X5_digest_63_2 : ab_oks M_X5_digest [(63, .iconst 0, 1, 0, 0, 0, .int (nI (0))), (64, .istore_n 1, 1, 1, 0, 0, .null)] = true := by decide +kernel
theorem g_X5_digest_65_4 : ab_oks M_X5_digest [(65, .iload_n 1, 1, 1, 0, 0, .null), (66, .aload_n 0, 1, 0, 0, 0, .null), (67, .getfield 7, 3, 5, 0, 930, .null), (70, .iconst 0, 1, 0, 0, 0, .int (nI (0)))] = true := by decide +kernel
theorem ok_X5_digest_71 : ab_ok M_X5_digest (71, .iaload, 1, 0, 0, 0, .null) = true := by decide +kernel
theorem dc_X5_digest_72 : decode (AM.bytes M_X5_digest) 72 = .ok (.if_icmp .ge 14, 3) := by decide +kernel
theorem g_X5_digest_75_2 : ab_oks M_X5_digest [(75, .aload_n 0, 1, 0, 0, 0, .null), (76, .iload_n 1, 1, 1, 0, 0, .null)] = true := by decide +kernel
theorem lk_5_253 : ab_lkV "LeafCradlesModel" 253 M_X5_mixVolume 1 [1327, 1329, 88, 97, 1330] = true := by decide +kernel
theorem dc_X5_digest_77 : decode (AM.bytes M_X5_digest) 77 = .ok (.invokevirtual 253, 3) := by decide +kernel
theorem g_X5_digest_80_2 : ab_oks M_X5_digest [(80, .iinc 1 1, 3, 1, 0, 0, .int (nI (1))), (83, .goto (-18), 3, 65, 0, 0, .null)] = true := by decide +kernel
theorem g_X5_digest_86_2 : ab_oks M_X5_digest [(86, .iconst 0, 1, 0, 0, 0, .int (nI (0))), (87, .istore_n 1, 1, 1, 0, 0, .null)] = true := by decide +kernel
theorem g_X5_digest_88_4 : ab_oks M_X5_digest [(88, .iload_n 1, 1, 1, 0, 0, .null), (89, .aload_n 0, 1, 0, 0, 0, .null), (90, .getfield 7, 3, 5, 0, 930, .null), (93, .iconst 1, 1, 0, 0, 0, .int (nI (1)))] = true := by decide +kernel
theorem ok_X5_digest_94 : ab_ok M_X5_digest (94, .iaload, 1, 0, 0, 0, .null) = true := by decide +kernel
theorem dc_X5_digest_95 : decode (AM.bytes M_X5_digest) 95 = .ok (.if_icmp .ge 46, 3) := by decide +kernel
theorem g_X5_digest_98_2 : ab_oks M_X5_digest [(98, .iconst 0, 1, 0, 0, 0, .int (nI (0))), (99, .istore_n 2, 1, 2, 0, 0, .null)] = true := by decide +kernel
theorem g_X5_digest_100_2 : ab_oks M_X5_digest [(100, .iload_n 2, 1, 2, 0, 0, .null), (101, .bipush 6, 2, 0, 0, 0, .int (nI (6)))] = true := by decide +kernel
theorem dc_X5_digest_103 : decode (AM.bytes M_X5_digest) 103 = .ok (.if_icmp .ge 20, 3) := by decide +kernel
theorem g_X5_digest_106_4 : ab_oks M_X5_digest [(106, .aload_n 0, 1, 0, 0, 0, .null), (107, .aload_n 0, 1, 0, 0, 0, .null), (108, .iload_n 1, 1, 1, 0, 0, .null), (109, .iload_n 2, 1, 2, 0, 0, .null)] = true := by decide +kernel
theorem lk_5_167 : ab_lkV "LeafCradlesModel" 167 M_X5_cradleNow 2 [1189, 1191, 66, 97, 1192] = true := by decide +kernel
theorem dc_X5_digest_110 : decode (AM.bytes M_X5_digest) 110 = .ok (.invokevirtual 167, 3) := by decide +kernel
theorem g_X5_digest_113_1 : ab_oks M_X5_digest [(113, .i2l, 1, 0, 0, 0, .null)] = true := by decide +kernel
theorem dc_X5_digest_114 : decode (AM.bytes M_X5_digest) 114 = .ok (.invokevirtual 241, 3) := by decide +kernel
theorem g_X5_digest_117_2 : ab_oks M_X5_digest [(117, .iinc 2 1, 3, 2, 0, 0, .int (nI (1))), (120, .goto (-20), 3, 100, 0, 0, .null)] = true := by decide +kernel
theorem g_X5_digest_123_4 : ab_oks M_X5_digest [(123, .aload_n 0, 1, 0, 0, 0, .null), (124, .aload_n 0, 1, 0, 0, 0, .null), (125, .bipush 30, 2, 0, 0, 0, .int (nI (30))), (127, .iload_n 1, 1, 1, 0, 0, .null)] = true := by decide +kernel
theorem lk_5_191 : ab_lkV "LeafCradlesModel" 191 M_X5_passedNow 2 [1237, 1239, 71, 97, 1240] = true := by decide +kernel
theorem dc_X5_digest_128 : decode (AM.bytes M_X5_digest) 128 = .ok (.invokevirtual 191, 3) := by decide +kernel
theorem g_X5_digest_131_1 : ab_oks M_X5_digest [(131, .i2l, 1, 0, 0, 0, .null)] = true := by decide +kernel
theorem dc_X5_digest_132 : decode (AM.bytes M_X5_digest) 132 = .ok (.invokevirtual 241, 3) := by decide +kernel
theorem g_X5_digest_135_2 : ab_oks M_X5_digest [(135, .iinc 1 1, 3, 1, 0, 0, .int (nI (1))), (138, .goto (-50), 3, 88, 0, 0, .null)] = true := by decide +kernel
theorem g_X5_digest_141_2 : ab_oks M_X5_digest [(141, .iconst 0, 1, 0, 0, 0, .int (nI (0))), (142, .istore_n 1, 1, 1, 0, 0, .null)] = true := by decide +kernel
theorem g_X5_digest_143_4 : ab_oks M_X5_digest [(143, .iload_n 1, 1, 1, 0, 0, .null), (144, .aload_n 0, 1, 0, 0, 0, .null), (145, .getfield 7, 3, 5, 0, 930, .null), (148, .iconst 2, 1, 0, 0, 0, .int (nI (2)))] = true := by decide +kernel
theorem ok_X5_digest_149 : ab_ok M_X5_digest (149, .iaload, 1, 0, 0, 0, .null) = true := by decide +kernel
theorem dc_X5_digest_150 : decode (AM.bytes M_X5_digest) 150 = .ok (.if_icmp .ge 33, 3) := by decide +kernel
theorem g_X5_digest_153_2 : ab_oks M_X5_digest [(153, .iconst 0, 1, 0, 0, 0, .int (nI (0))), (154, .istore_n 2, 1, 2, 0, 0, .null)] = true := by decide +kernel
theorem g_X5_digest_155_2 : ab_oks M_X5_digest [(155, .iload_n 2, 1, 2, 0, 0, .null), (156, .iconst 4, 1, 0, 0, 0, .int (nI (4)))] = true := by decide +kernel
theorem dc_X5_digest_157 : decode (AM.bytes M_X5_digest) 157 = .ok (.if_icmp .ge 20, 3) := by decide +kernel
theorem g_X5_digest_160_4 : ab_oks M_X5_digest [(160, .aload_n 0, 1, 0, 0, 0, .null), (161, .aload_n 0, 1, 0, 0, 0, .null), (162, .iload_n 1, 1, 1, 0, 0, .null), (163, .iload_n 2, 1, 2, 0, 0, .null)] = true := by decide +kernel
theorem dc_X5_digest_164 : decode (AM.bytes M_X5_digest) 164 = .ok (.invokevirtual 58, 3) := by decide +kernel
theorem g_X5_digest_167_1 : ab_oks M_X5_digest [(167, .i2l, 1, 0, 0, 0, .null)] = true := by decide +kernel
theorem dc_X5_digest_168 : decode (AM.bytes M_X5_digest) 168 = .ok (.invokevirtual 241, 3) := by decide +kernel
theorem g_X5_digest_171_2 : ab_oks M_X5_digest [(171, .iinc 2 1, 3, 2, 0, 0, .int (nI (1))), (174, .goto (-19), 3, 155, 0, 0, .null)] = true := by decide +kernel
theorem g_X5_digest_177_2 : ab_oks M_X5_digest [(177, .iinc 1 1, 3, 1, 0, 0, .int (nI (1))), (180, .goto (-37), 3, 143, 0, 0, .null)] = true := by decide +kernel
theorem g_X5_digest_183_2 : ab_oks M_X5_digest [(183, .iconst 0, 1, 0, 0, 0, .int (nI (0))), (184, .istore_n 1, 1, 1, 0, 0, .null)] = true := by decide +kernel
theorem g_X5_digest_185_5 : ab_oks M_X5_digest [(185, .iload_n 1, 1, 1, 0, 0, .null), (186, .iconst 5, 1, 0, 0, 0, .int (nI (5))), (187, .aload_n 0, 1, 0, 0, 0, .null), (188, .getfield 7, 3, 5, 0, 930, .null), (191, .iconst 5, 1, 0, 0, 0, .int (nI (5)))] = true := by decide +kernel
theorem ok_X5_digest_192 : ab_ok M_X5_digest (192, .iaload, 1, 0, 0, 0, .null) = true := by decide +kernel
theorem g_X5_digest_193_1 : ab_oks M_X5_digest [(193, .imul, 1, 0, 0, 0, .null)] = true := by decide +kernel
theorem dc_X5_digest_194 : decode (AM.bytes M_X5_digest) 194 = .ok (.if_icmp .ge 23, 3) := by decide +kernel
theorem g_X5_digest_197_6 : ab_oks M_X5_digest [(197, .aload_n 0, 1, 0, 0, 0, .null), (198, .aload_n 0, 1, 0, 0, 0, .null), (199, .getfield 7, 3, 5, 0, 930, .null), (202, .bipush 123, 2, 0, 0, 0, .int (nI (123))), (204, .iload_n 1, 1, 1, 0, 0, .null), (205, .iadd, 1, 0, 0, 0, .null)] = true := by decide +kernel
theorem ok_X5_digest_206 : ab_ok M_X5_digest (206, .iaload, 1, 0, 0, 0, .null) = true := by decide +kernel
theorem g_X5_digest_207_1 : ab_oks M_X5_digest [(207, .i2l, 1, 0, 0, 0, .null)] = true := by decide +kernel
theorem dc_X5_digest_208 : decode (AM.bytes M_X5_digest) 208 = .ok (.invokevirtual 241, 3) := by decide +kernel
theorem g_X5_digest_211_2 : ab_oks M_X5_digest [(211, .iinc 1 1, 3, 1, 0, 0, .int (nI (1))), (214, .goto (-29), 3, 185, 0, 0, .null)] = true := by decide +kernel
theorem g_X5_digest_217_1 : ab_oks M_X5_digest [(217, .aload_n 0, 1, 0, 0, 0, .null)] = true := by decide +kernel
theorem lk_5_256 : ab_lkV "LeafCradlesModel" 256 M_X5_mixAhead 0 [1331, 1333, 89, 97, 1334] = true := by decide +kernel
theorem dc_X5_digest_218 : decode (AM.bytes M_X5_digest) 218 = .ok (.invokevirtual 256, 3) := by decide +kernel
theorem g_X5_digest_221_3 : ab_oks M_X5_digest [(221, .aload_n 0, 1, 0, 0, 0, .null), (222, .aload_n 0, 1, 0, 0, 0, .null), (223, .getfield 118, 3, 5, 14, 944, .null)] = true := by decide +kernel
theorem g_X5_digest_226_1 : ab_oks M_X5_digest [(226, .i2l, 1, 0, 0, 0, .null)] = true := by decide +kernel
theorem dc_X5_digest_227 : decode (AM.bytes M_X5_digest) 227 = .ok (.invokevirtual 241, 3) := by decide +kernel
theorem g_X5_digest_230_2 : ab_oks M_X5_digest [(230, .iconst 0, 1, 0, 0, 0, .int (nI (0))), (231, .istore_n 1, 1, 1, 0, 0, .null)] = true := by decide +kernel
theorem g_X5_digest_232_3 : ab_oks M_X5_digest [(232, .iload_n 1, 1, 1, 0, 0, .null), (233, .aload_n 0, 1, 0, 0, 0, .null), (234, .getfield 118, 3, 5, 14, 944, .null)] = true := by decide +kernel
theorem dc_X5_digest_237 : decode (AM.bytes M_X5_digest) 237 = .ok (.if_icmp .ge 20, 3) := by decide +kernel
theorem g_X5_digest_240_4 : ab_oks M_X5_digest [(240, .aload_n 0, 1, 0, 0, 0, .null), (241, .aload_n 0, 1, 0, 0, 0, .null), (242, .getfield 19, 3, 5, 3, 933, .null), (245, .iload_n 1, 1, 1, 0, 0, .null)] = true := by decide +kernel
theorem ok_X5_digest_246 : ab_ok M_X5_digest (246, .iaload, 1, 0, 0, 0, .null) = true := by decide +kernel
theorem g_X5_digest_247_1 : ab_oks M_X5_digest [(247, .i2l, 1, 0, 0, 0, .null)] = true := by decide +kernel
theorem dc_X5_digest_248 : decode (AM.bytes M_X5_digest) 248 = .ok (.invokevirtual 241, 3) := by decide +kernel
theorem g_X5_digest_251_2 : ab_oks M_X5_digest [(251, .iinc 1 1, 3, 1, 0, 0, .int (nI (1))), (254, .goto (-22), 3, 232, 0, 0, .null)] = true := by decide +kernel
theorem g_X5_digest_257_2 : ab_oks M_X5_digest [(257, .aload_n 0, 1, 0, 0, 0, .null), (258, .getfield 237, 3, 5, 16, 946, .null)] = true := by decide +kernel
theorem dc_X5_digest_261 : decode (AM.bytes M_X5_digest) 261 = .ok (.lreturn, 1) := by decide +kernel
set_option maxRecDepth 100000 in
set_option maxHeartbeats 4000000 in
theorem s_5digest {E : AE} (d : Nat) {nv : Nat} {nc : Nat} {nr : Nat} {ne : Nat} {q : Nat}  {o0 a0 t0 p0 u0 l0 : List AC} {z sa ro te fr to un ga pi be : Nat → Int32} {bm en sta sv ln th : Int32} {hh : Int64} (hZ : ZI z nv nc nr ne) (hnan : vf_n64 (FP.ddiv (FP.i2d (L_5overAll_4 9 z nv)) (FP.i2d (L_5overAll_4 2 z nv)))) (hnn : Op.cmpValue (FP.dcmp (F_5openNow nv nc z sv) (F_5openNow nv nc z sv)) .l = 0) (hln : ln = nI q) (hq : q ≤ 60) : CT E M_X5_digest (d + 8) [.ref 16384] (hp o0 a0 t0 p0 (mo z sa ro te fr to un ga pi be bm en sta sv ln th hh) u0 l0) (.inl (some (.long (F_5digest nv nc nr ne q z sa te ga pi be sv)))) (hp o0 a0 t0 p0 (mo z (F_5digest_sa nv nc nr ne z sa sv) ro te fr to un (F_5digest_ga nv nc z ga) (F_5digest_pi nv nc z ga pi be) (F_5digest_be nv nc z ga pi be) (F_5digest_bm nv nc z ga pi be) en sta sv ln F_5digest_th (F_5digest_hh nv nc nr ne q z sa te ga pi be sv)) u0 l0) 0 0 := by
  obtain ⟨⟨hnv, h12⟩, ⟨hnc, h4⟩, ⟨hnr, h3⟩, ⟨hne, h60⟩, hLV⟩ := id hZ
  refine CT.of (L := [some (.ref 16384), none, none]) rfl rfl ?_
  refine AR.run g_X5_digest_0_8 14 [some (.ref 16384), some (.int (nI (0))), none] [] (hp o0 a0 t0 p0 (mo z sa ro te fr to un ga pi be bm en sta sv ln (nI (0)) 2341) u0 l0) [] rfl trivial ?_
  refine AR.cast (L' := [some (.ref 16384), some (.int (nI (0))), none]) (by first | rfl | (rw [L_5digest_14])) rfl (by first | rfl | (rw [L_5digest_14])) (AR.loopN 14 (fun j14 => [some (.ref 16384), some (.int (nI (j14))), none]) (fun j14 => (hp o0 a0 t0 p0 (mo z sa ro te fr to un ga pi be bm en sta sv ln (nI (0)) (L_5digest_14 nv nc z sv j14)) u0 l0)) (fun j14 => True) (fun j14 hj14 hI14 ih14 => ?_) (fun hI14 => ?_) 0 (by omega) (by first | trivial | omega))
  · refine AR.run g_X5_digest_14_2 17 [some (.ref 16384), some (.int (nI (j14))), none] [.int (nI (14)), .int (nI (j14))] _ [] rfl trivial ?_
    refine AR.ge2N (tgt := 36) (a := j14) (b := 14) dc_X5_digest_17 (by decide) (by first | rfl | (simp only [nI_add, pk_mul]; first | done | rfl)) (by first | rfl | (simp only [nI_add, pk_mul]; first | done | rfl)) (by omega) (by omega) (fun c17_1 => absurd c17_1 (by omega)) (fun c17_1 => ?_)
    refine AR.run g_X5_digest_20_3 23 [some (.ref 16384), some (.int (nI (j14))), none] [.int (nI (j14)), .ref 16384, .ref 16384] _ [] rfl trivial ?_
    refine AR.callV1 (16384) [.int (nI (j14))] [.ref 16384] lk_5_179 dc_X5_digest_23 rfl rfl (s_5counted _ j14 (by assumption) (by omega)) (by first | rfl | (simp only [nI_add, pk_mul]; first | done | rfl)) rfl ?_
    refine AR.run g_X5_digest_26_1 27 [some (.ref 16384), some (.int (nI (j14))), none] [.long ((F_5counted j14 nv nc z sv).toInt64), .ref 16384] _ [] rfl trivial ?_
    refine AR.callV0 (16384) [.long ((F_5counted j14 nv nc z sv).toInt64)] [] lk_5_241 dc_X5_digest_27 rfl rfl (s_5mix _ ((F_5counted j14 nv nc z sv).toInt64) ) (by first | rfl | (simp only [nI_add, pk_mul]; first | done | rfl)) rfl ?_
    refine AR.run g_X5_digest_30_2 14 [some (.ref 16384), some (.int ((nI (j14)) + (nI (1)))), none] [] _ [] rfl trivial ?_
    have e2 : L_5digest_14 nv nc z sv (j14 + 1) = (F_5mix_hh ((F_5counted j14 nv nc z sv).toInt64) (L_5digest_14 nv nc z sv j14)) := by rw [L_5digest_14, B_5digest_14]
    exact AR.cast (L' := [some (.ref 16384), some (.int (nI (j14 + 1))), none]) (by first | rfl | rw [nI_add]) rfl (by rw [e2]) (ih14 (by first | trivial | omega))
  · refine AR.run g_X5_digest_14_2 17 [some (.ref 16384), some (.int (nI (14))), none] [.int (nI (14)), .int (nI (14))] _ [] rfl trivial ?_
    refine AR.ge2N (tgt := 36) (a := 14) (b := 14) dc_X5_digest_17 (by decide) (by first | rfl | (simp only [nI_add, pk_mul]; first | done | rfl)) (by first | rfl | (simp only [nI_add, pk_mul]; first | done | rfl)) (by omega) (by omega) (fun c17_3 => ?_) (fun c17_3 => absurd c17_3 (by omega))
    refine AR.run g_X5_digest_36_2 38 [some (.ref 16384), some (.int (nI (0))), none] [] _ [] rfl trivial ?_
    refine AR.cast (L' := [some (.ref 16384), some (.int (nI (0))), none]) (by first | rfl | (rw [L_5digest_38])) rfl (by first | rfl | (rw [L_5digest_38])) (AR.loopN 4 (fun j38 => [some (.ref 16384), some (.int (nI (j38))), none]) (fun j38 => (hp o0 a0 t0 p0 (mo z sa ro te fr to un ga pi be bm en sta sv ln (nI (0)) (L_5digest_38 nv nc z sv j38)) u0 l0)) (fun j38 => True) (fun j38 hj38 hI38 ih38 => ?_) (fun hI38 => ?_) 0 (by omega) (by first | trivial | omega))
    · refine AR.run g_X5_digest_38_2 40 [some (.ref 16384), some (.int (nI (j38))), none] [.int (nI (4)), .int (nI (j38))] _ [] rfl trivial ?_
      refine AR.ge2N (tgt := 63) (a := j38) (b := 4) dc_X5_digest_40 (by decide) (by first | rfl | (simp only [nI_add, pk_mul]; first | done | rfl)) (by first | rfl | (simp only [nI_add, pk_mul]; first | done | rfl)) (by omega) (by omega) (fun c40_4 => absurd c40_4 (by omega)) (fun c40_4 => ?_)
      refine AR.run g_X5_digest_43_6 52 [some (.ref 16384), some (.int (nI (j38))), none] [.int ((nI (7)) + (nI (j38))), .ref 16385, .ref 16384] _ [] rfl trivial ?_
      refine AR.ald (n := 0) (e := (7 + j38)) ok_X5_digest_52 (by first | rfl | (simp only [nI_add, pk_mul]; first | done | rfl)) rfl (by omega) (by first | decide | omega) ?_
      refine AR.run g_X5_digest_53_1 54 [some (.ref 16384), some (.int (nI (j38))), none] [.long ((z (7 + j38)).toInt64), .ref 16384] _ [] rfl trivial ?_
      refine AR.callV0 (16384) [.long ((z (7 + j38)).toInt64)] [] lk_5_241 dc_X5_digest_54 rfl rfl (s_5mix _ ((z (7 + j38)).toInt64) ) (by first | rfl | (simp only [nI_add, pk_mul]; first | done | rfl)) rfl ?_
      refine AR.run g_X5_digest_57_2 38 [some (.ref 16384), some (.int ((nI (j38)) + (nI (1)))), none] [] _ [] rfl trivial ?_
      have e5 : L_5digest_38 nv nc z sv (j38 + 1) = (F_5mix_hh ((z (7 + j38)).toInt64) (L_5digest_38 nv nc z sv j38)) := by rw [L_5digest_38, B_5digest_38]
      exact AR.cast (L' := [some (.ref 16384), some (.int (nI (j38 + 1))), none]) (by first | rfl | rw [nI_add]) rfl (by rw [e5]) (ih38 (by first | trivial | omega))
    · refine AR.run g_X5_digest_38_2 40 [some (.ref 16384), some (.int (nI (4))), none] [.int (nI (4)), .int (nI (4))] _ [] rfl trivial ?_
      refine AR.ge2N (tgt := 63) (a := 4) (b := 4) dc_X5_digest_40 (by decide) (by first | rfl | (simp only [nI_add, pk_mul]; first | done | rfl)) (by first | rfl | (simp only [nI_add, pk_mul]; first | done | rfl)) (by omega) (by omega) (fun c40_6 => ?_) (fun c40_6 => absurd c40_6 (by omega))
      refine AR.run g_X5_digest_63_2 65 [some (.ref 16384), some (.int (nI (0))), none] [] _ [] rfl trivial ?_
      refine AR.cast (L' := [some (.ref 16384), some (.int (nI (0))), none]) (by first | rfl | (rw [L_5digest_65])) rfl (by first | rfl | (rw [L_5digest_65])) (AR.loopN nv (fun j65 => [some (.ref 16384), some (.int (nI (j65))), none]) (fun j65 => (hp o0 a0 t0 p0 (mo z sa ro te fr to un ga pi be bm en sta sv ln (nI (0)) (L_5digest_65 nv nc nr ne z sv j65)) u0 l0)) (fun j65 => True) (fun j65 hj65 hI65 ih65 => ?_) (fun hI65 => ?_) 0 (by omega) (by first | trivial | omega))
      · refine AR.run g_X5_digest_65_4 71 [some (.ref 16384), some (.int (nI (j65))), none] [.int (nI (0)), .ref 16385, .int (nI (j65))] _ [] rfl trivial ?_
        refine AR.ald (n := 0) (e := 0) ok_X5_digest_71 (by first | rfl | (simp only [nI_add, pk_mul]; first | done | rfl)) rfl (by omega) (by first | decide | omega) ?_
        refine AR.top hZ.1.1 ?_
        refine AR.ge2N (tgt := 86) (a := j65) (b := nv) dc_X5_digest_72 (by decide) (by first | rfl | (simp only [nI_add, pk_mul]; first | done | rfl)) (by first | rfl | (simp only [nI_add, pk_mul]; first | done | rfl)) (by omega) (by omega) (fun c72_7 => absurd c72_7 (by omega)) (fun c72_7 => ?_)
        refine AR.run g_X5_digest_75_2 77 [some (.ref 16384), some (.int (nI (j65))), none] [.int (nI (j65)), .ref 16384] _ [] rfl trivial ?_
        refine AR.callV0 (16384) [.int (nI (j65))] [] lk_5_253 dc_X5_digest_77 rfl rfl (s_5mixVolume _ j65 (by assumption) (by omega)) (by first | rfl | (simp only [nI_add, pk_mul]; first | done | rfl)) rfl ?_
        refine AR.run g_X5_digest_80_2 65 [some (.ref 16384), some (.int ((nI (j65)) + (nI (1)))), none] [] _ [] rfl trivial ?_
        have e8 : L_5digest_65 nv nc nr ne z sv (j65 + 1) = (F_5mixVolume_hh j65 nr ne z (L_5digest_65 nv nc nr ne z sv j65)) := by rw [L_5digest_65, B_5digest_65]
        exact AR.cast (L' := [some (.ref 16384), some (.int (nI (j65 + 1))), none]) (by first | rfl | rw [nI_add]) rfl (by rw [e8]) (ih65 (by first | trivial | omega))
      · refine AR.run g_X5_digest_65_4 71 [some (.ref 16384), some (.int (nI (nv))), none] [.int (nI (0)), .ref 16385, .int (nI (nv))] _ [] rfl trivial ?_
        refine AR.ald (n := 0) (e := 0) ok_X5_digest_71 (by first | rfl | (simp only [nI_add, pk_mul]; first | done | rfl)) rfl (by omega) (by first | decide | omega) ?_
        refine AR.top hZ.1.1 ?_
        refine AR.ge2N (tgt := 86) (a := nv) (b := nv) dc_X5_digest_72 (by decide) (by first | rfl | (simp only [nI_add, pk_mul]; first | done | rfl)) (by first | rfl | (simp only [nI_add, pk_mul]; first | done | rfl)) (by omega) (by omega) (fun c72_9 => ?_) (fun c72_9 => absurd c72_9 (by omega))
        refine AR.run g_X5_digest_86_2 88 [some (.ref 16384), some (.int (nI (0))), none] [] _ [] rfl trivial ?_
        refine AR.cast (L' := [some (.ref 16384), some (.int (nI (0))), none]) (by first | rfl | (rw [L_5digest_88])) rfl (by first | rfl | (rw [L_5digest_88])) (AR.loopN nc (fun j88 => [some (.ref 16384), some (.int (nI (j88))), none]) (fun j88 => (hp o0 a0 t0 p0 (mo z ((L_5digest_88 nv nc nr ne z sa sv j88).2) ro te fr to un ga pi be bm en sta sv ln (nI (0)) ((L_5digest_88 nv nc nr ne z sa sv j88).1)) u0 l0)) (fun j88 => True) (fun j88 hj88 hI88 ih88 => ?_) (fun hI88 => ?_) 0 (by omega) (by first | trivial | omega))
        · refine AR.run g_X5_digest_88_4 94 [some (.ref 16384), some (.int (nI (j88))), none] [.int (nI (1)), .ref 16385, .int (nI (j88))] _ [] rfl trivial ?_
          refine AR.ald (n := 0) (e := 1) ok_X5_digest_94 (by first | rfl | (simp only [nI_add, pk_mul]; first | done | rfl)) rfl (by omega) (by first | decide | omega) ?_
          refine AR.top hZ.2.1.1 ?_
          refine AR.ge2N (tgt := 141) (a := j88) (b := nc) dc_X5_digest_95 (by decide) (by first | rfl | (simp only [nI_add, pk_mul]; first | done | rfl)) (by first | rfl | (simp only [nI_add, pk_mul]; first | done | rfl)) (by omega) (by omega) (fun c95_10 => absurd c95_10 (by omega)) (fun c95_10 => ?_)
          refine AR.run g_X5_digest_98_2 100 [some (.ref 16384), some (.int (nI (j88))), some (.int (nI (0)))] [] _ [] rfl trivial ?_
          refine AR.cast (L' := [some (.ref 16384), some (.int (nI (j88))), some (.int (nI (0)))]) (by first | rfl | (rw [L_5digest_100])) rfl (by first | rfl | (rw [L_5digest_100])) (AR.loopN 6 (fun j100 => [some (.ref 16384), some (.int (nI (j88))), some (.int (nI (j100)))]) (fun j100 => (hp o0 a0 t0 p0 (mo z ((L_5digest_88 nv nc nr ne z sa sv j88).2) ro te fr to un ga pi be bm en sta sv ln (nI (0)) (L_5digest_100 nv z j88 ((L_5digest_88 nv nc nr ne z sa sv j88).1) j100)) u0 l0)) (fun j100 => True) (fun j100 hj100 hI100 ih100 => ?_) (fun hI100 => ?_) 0 (by omega) (by first | trivial | omega))
          · refine AR.run g_X5_digest_100_2 103 [some (.ref 16384), some (.int (nI (j88))), some (.int (nI (j100)))] [.int (nI (6)), .int (nI (j100))] _ [] rfl trivial ?_
            refine AR.ge2N (tgt := 123) (a := j100) (b := 6) dc_X5_digest_103 (by decide) (by first | rfl | (simp only [nI_add, pk_mul]; first | done | rfl)) (by first | rfl | (simp only [nI_add, pk_mul]; first | done | rfl)) (by omega) (by omega) (fun c103_11 => absurd c103_11 (by omega)) (fun c103_11 => ?_)
            refine AR.run g_X5_digest_106_4 110 [some (.ref 16384), some (.int (nI (j88))), some (.int (nI (j100)))] [.int (nI (j100)), .int (nI (j88)), .ref 16384, .ref 16384] _ [] rfl trivial ?_
            refine AR.callV1 (16384) [.int (nI (j88)), .int (nI (j100))] [.ref 16384] lk_5_167 dc_X5_digest_110 rfl rfl (s_5cradleNow _ j88 j100 (by assumption) (by omega) (by omega)) (by first | rfl | (simp only [nI_add, pk_mul]; first | done | rfl)) rfl ?_
            refine AR.run g_X5_digest_113_1 114 [some (.ref 16384), some (.int (nI (j88))), some (.int (nI (j100)))] [.long ((F_5cradleNow j88 j100 nv z).toInt64), .ref 16384] _ [] rfl trivial ?_
            refine AR.callV0 (16384) [.long ((F_5cradleNow j88 j100 nv z).toInt64)] [] lk_5_241 dc_X5_digest_114 rfl rfl (s_5mix _ ((F_5cradleNow j88 j100 nv z).toInt64) ) (by first | rfl | (simp only [nI_add, pk_mul]; first | done | rfl)) rfl ?_
            refine AR.run g_X5_digest_117_2 100 [some (.ref 16384), some (.int (nI (j88))), some (.int ((nI (j100)) + (nI (1))))] [] _ [] rfl trivial ?_
            have e12 : L_5digest_100 nv z j88 ((L_5digest_88 nv nc nr ne z sa sv j88).1) (j100 + 1) = (F_5mix_hh ((F_5cradleNow j88 j100 nv z).toInt64) (L_5digest_100 nv z j88 ((L_5digest_88 nv nc nr ne z sa sv j88).1) j100)) := by rw [L_5digest_100, B_5digest_100]
            exact AR.cast (L' := [some (.ref 16384), some (.int (nI (j88))), some (.int (nI (j100 + 1)))]) (by first | rfl | rw [nI_add]) rfl (by rw [e12]) (ih100 (by first | trivial | omega))
          · refine AR.run g_X5_digest_100_2 103 [some (.ref 16384), some (.int (nI (j88))), some (.int (nI (6)))] [.int (nI (6)), .int (nI (6))] _ [] rfl trivial ?_
            refine AR.ge2N (tgt := 123) (a := 6) (b := 6) dc_X5_digest_103 (by decide) (by first | rfl | (simp only [nI_add, pk_mul]; first | done | rfl)) (by first | rfl | (simp only [nI_add, pk_mul]; first | done | rfl)) (by omega) (by omega) (fun c103_13 => ?_) (fun c103_13 => absurd c103_13 (by omega))
            refine AR.run g_X5_digest_123_4 128 [some (.ref 16384), some (.int (nI (j88))), some (.int (nI (6)))] [.int (nI (j88)), .int (nI (30)), .ref 16384, .ref 16384] _ [] rfl trivial ?_
            refine AR.callV1 (16384) [.int (nI (30)), .int (nI (j88))] [.ref 16384] lk_5_191 dc_X5_digest_128 rfl rfl ((CT.hp (k := (hp o0 a0 t0 p0 (mo z (F_5passedNow_sa z ((L_5digest_88 nv nc nr ne z sa sv j88).2)) ro te fr to un ga pi be bm en sta sv ln (nI (0)) (L_5digest_100 nv z j88 ((L_5digest_88 nv nc nr ne z sa sv j88).1) 6)) u0 l0)) (s_5passedNow _ 30 (nI (j88)) (by assumption) (by omega)) (by rw [pN_back hZ]))) (by first | rfl | (simp only [nI_add, pk_mul]; first | done | rfl)) rfl ?_
            refine AR.run g_X5_digest_131_1 132 [some (.ref 16384), some (.int (nI (j88))), some (.int (nI (6)))] [.long ((F_5passedNow 30 (nI (j88)) nv nc nr z).toInt64), .ref 16384] _ [] rfl trivial ?_
            refine AR.callV0 (16384) [.long ((F_5passedNow 30 (nI (j88)) nv nc nr z).toInt64)] [] lk_5_241 dc_X5_digest_132 rfl rfl (s_5mix _ ((F_5passedNow 30 (nI (j88)) nv nc nr z).toInt64) ) (by first | rfl | (simp only [nI_add, pk_mul]; first | done | rfl)) rfl ?_
            refine AR.run g_X5_digest_135_2 88 [some (.ref 16384), some (.int ((nI (j88)) + (nI (1)))), some (.int (nI (6)))] [] _ [] rfl trivial ?_
            refine AR.drop (L' := [some (.ref 16384), some (.int ((nI (j88)) + (nI (1)))), none]) ⟨rfl, rfl, trivial⟩ ?_
            have e14 : L_5digest_88 nv nc nr ne z sa sv (j88 + 1) = (F_5mix_hh ((F_5passedNow 30 (nI (j88)) nv nc nr z).toInt64) (L_5digest_100 nv z j88 ((L_5digest_88 nv nc nr ne z sa sv j88).1) 6), F_5passedNow_sa z ((L_5digest_88 nv nc nr ne z sa sv j88).2)) := by rw [L_5digest_88, B_5digest_88]
            exact AR.cast (L' := [some (.ref 16384), some (.int (nI (j88 + 1))), none]) (by first | rfl | rw [nI_add]) rfl (by rw [e14]) (ih88 (by first | trivial | omega))
        · refine AR.run g_X5_digest_88_4 94 [some (.ref 16384), some (.int (nI (nc))), none] [.int (nI (1)), .ref 16385, .int (nI (nc))] _ [] rfl trivial ?_
          refine AR.ald (n := 0) (e := 1) ok_X5_digest_94 (by first | rfl | (simp only [nI_add, pk_mul]; first | done | rfl)) rfl (by omega) (by first | decide | omega) ?_
          refine AR.top hZ.2.1.1 ?_
          refine AR.ge2N (tgt := 141) (a := nc) (b := nc) dc_X5_digest_95 (by decide) (by first | rfl | (simp only [nI_add, pk_mul]; first | done | rfl)) (by first | rfl | (simp only [nI_add, pk_mul]; first | done | rfl)) (by omega) (by omega) (fun c95_15 => ?_) (fun c95_15 => absurd c95_15 (by omega))
          refine AR.run g_X5_digest_141_2 143 [some (.ref 16384), some (.int (nI (0))), none] [] _ [] rfl trivial ?_
          refine AR.cast (L' := [some (.ref 16384), some (.int (nI (0))), none]) (by first | rfl | (rw [L_5digest_143])) rfl (by first | rfl | (rw [L_5digest_143])) (AR.loopN nr (fun j143 => [some (.ref 16384), some (.int (nI (j143))), none]) (fun j143 => (hp o0 a0 t0 p0 (mo z ((L_5digest_88 nv nc nr ne z sa sv nc).2) ro te fr to un ga pi be bm en sta sv ln (nI (0)) (L_5digest_143 nv nc nr ne z sa sv j143)) u0 l0)) (fun j143 => True) (fun j143 hj143 hI143 ih143 => ?_) (fun hI143 => ?_) 0 (by omega) (by first | trivial | omega))
          · refine AR.run g_X5_digest_143_4 149 [some (.ref 16384), some (.int (nI (j143))), none] [.int (nI (2)), .ref 16385, .int (nI (j143))] _ [] rfl trivial ?_
            refine AR.ald (n := 0) (e := 2) ok_X5_digest_149 (by first | rfl | (simp only [nI_add, pk_mul]; first | done | rfl)) rfl (by omega) (by first | decide | omega) ?_
            refine AR.top hZ.2.2.1.1 ?_
            refine AR.ge2N (tgt := 183) (a := j143) (b := nr) dc_X5_digest_150 (by decide) (by first | rfl | (simp only [nI_add, pk_mul]; first | done | rfl)) (by first | rfl | (simp only [nI_add, pk_mul]; first | done | rfl)) (by omega) (by omega) (fun c150_16 => absurd c150_16 (by omega)) (fun c150_16 => ?_)
            refine AR.run g_X5_digest_153_2 155 [some (.ref 16384), some (.int (nI (j143))), some (.int (nI (0)))] [] _ [] rfl trivial ?_
            refine AR.cast (L' := [some (.ref 16384), some (.int (nI (j143))), some (.int (nI (0)))]) (by first | rfl | (rw [L_5digest_155])) rfl (by first | rfl | (rw [L_5digest_155])) (AR.loopN 4 (fun j155 => [some (.ref 16384), some (.int (nI (j143))), some (.int (nI (j155)))]) (fun j155 => (hp o0 a0 t0 p0 (mo z ((L_5digest_88 nv nc nr ne z sa sv nc).2) ro te fr to un ga pi be bm en sta sv ln (nI (0)) (L_5digest_155 z j143 (L_5digest_143 nv nc nr ne z sa sv j143) j155)) u0 l0)) (fun j155 => True) (fun j155 hj155 hI155 ih155 => ?_) (fun hI155 => ?_) 0 (by omega) (by first | trivial | omega))
            · refine AR.run g_X5_digest_155_2 157 [some (.ref 16384), some (.int (nI (j143))), some (.int (nI (j155)))] [.int (nI (4)), .int (nI (j155))] _ [] rfl trivial ?_
              refine AR.ge2N (tgt := 177) (a := j155) (b := 4) dc_X5_digest_157 (by decide) (by first | rfl | (simp only [nI_add, pk_mul]; first | done | rfl)) (by first | rfl | (simp only [nI_add, pk_mul]; first | done | rfl)) (by omega) (by omega) (fun c157_17 => absurd c157_17 (by omega)) (fun c157_17 => ?_)
              refine AR.run g_X5_digest_160_4 164 [some (.ref 16384), some (.int (nI (j143))), some (.int (nI (j155)))] [.int (nI (j155)), .int (nI (j143)), .ref 16384, .ref 16384] _ [] rfl trivial ?_
              refine AR.callV1 (16384) [.int (nI (j143)), .int (nI (j155))] [.ref 16384] lk_5_58 dc_X5_digest_164 rfl rfl (s_ofCarrier _ j143 j155 (by omega) (by omega)) (by first | rfl | (simp only [nI_add, pk_mul]; first | done | rfl)) rfl ?_
              refine AR.run g_X5_digest_167_1 168 [some (.ref 16384), some (.int (nI (j143))), some (.int (nI (j155)))] [.long ((z (111 + 4 * j143 + j155)).toInt64), .ref 16384] _ [] rfl trivial ?_
              refine AR.callV0 (16384) [.long ((z (111 + 4 * j143 + j155)).toInt64)] [] lk_5_241 dc_X5_digest_168 rfl rfl (s_5mix _ ((z (111 + 4 * j143 + j155)).toInt64) ) (by first | rfl | (simp only [nI_add, pk_mul]; first | done | rfl)) rfl ?_
              refine AR.run g_X5_digest_171_2 155 [some (.ref 16384), some (.int (nI (j143))), some (.int ((nI (j155)) + (nI (1))))] [] _ [] rfl trivial ?_
              have e18 : L_5digest_155 z j143 (L_5digest_143 nv nc nr ne z sa sv j143) (j155 + 1) = (F_5mix_hh ((z (111 + 4 * j143 + j155)).toInt64) (L_5digest_155 z j143 (L_5digest_143 nv nc nr ne z sa sv j143) j155)) := by rw [L_5digest_155, B_5digest_155]
              exact AR.cast (L' := [some (.ref 16384), some (.int (nI (j143))), some (.int (nI (j155 + 1)))]) (by first | rfl | rw [nI_add]) rfl (by rw [e18]) (ih155 (by first | trivial | omega))
            · refine AR.run g_X5_digest_155_2 157 [some (.ref 16384), some (.int (nI (j143))), some (.int (nI (4)))] [.int (nI (4)), .int (nI (4))] _ [] rfl trivial ?_
              refine AR.ge2N (tgt := 177) (a := 4) (b := 4) dc_X5_digest_157 (by decide) (by first | rfl | (simp only [nI_add, pk_mul]; first | done | rfl)) (by first | rfl | (simp only [nI_add, pk_mul]; first | done | rfl)) (by omega) (by omega) (fun c157_19 => ?_) (fun c157_19 => absurd c157_19 (by omega))
              refine AR.run g_X5_digest_177_2 143 [some (.ref 16384), some (.int ((nI (j143)) + (nI (1)))), some (.int (nI (4)))] [] _ [] rfl trivial ?_
              refine AR.drop (L' := [some (.ref 16384), some (.int ((nI (j143)) + (nI (1)))), none]) ⟨rfl, rfl, trivial⟩ ?_
              have e20 : L_5digest_143 nv nc nr ne z sa sv (j143 + 1) = (L_5digest_155 z j143 (L_5digest_143 nv nc nr ne z sa sv j143) 4) := by rw [L_5digest_143, B_5digest_143]
              exact AR.cast (L' := [some (.ref 16384), some (.int (nI (j143 + 1))), none]) (by first | rfl | rw [nI_add]) rfl (by rw [e20]) (ih143 (by first | trivial | omega))
          · refine AR.run g_X5_digest_143_4 149 [some (.ref 16384), some (.int (nI (nr))), none] [.int (nI (2)), .ref 16385, .int (nI (nr))] _ [] rfl trivial ?_
            refine AR.ald (n := 0) (e := 2) ok_X5_digest_149 (by first | rfl | (simp only [nI_add, pk_mul]; first | done | rfl)) rfl (by omega) (by first | decide | omega) ?_
            refine AR.top hZ.2.2.1.1 ?_
            refine AR.ge2N (tgt := 183) (a := nr) (b := nr) dc_X5_digest_150 (by decide) (by first | rfl | (simp only [nI_add, pk_mul]; first | done | rfl)) (by first | rfl | (simp only [nI_add, pk_mul]; first | done | rfl)) (by omega) (by omega) (fun c150_21 => ?_) (fun c150_21 => absurd c150_21 (by omega))
            refine AR.run g_X5_digest_183_2 185 [some (.ref 16384), some (.int (nI (0))), none] [] _ [] rfl trivial ?_
            refine AR.cast (L' := [some (.ref 16384), some (.int (nI (0))), none]) (by first | rfl | (rw [L_5digest_185])) rfl (by first | rfl | (rw [L_5digest_185])) (AR.loopN (5 * ne) (fun j185 => [some (.ref 16384), some (.int (nI (j185))), none]) (fun j185 => (hp o0 a0 t0 p0 (mo z ((L_5digest_88 nv nc nr ne z sa sv nc).2) ro te fr to un ga pi be bm en sta sv ln (nI (0)) (L_5digest_185 nv nc nr ne z sa sv j185)) u0 l0)) (fun j185 => True) (fun j185 hj185 hI185 ih185 => ?_) (fun hI185 => ?_) 0 (by omega) (by first | trivial | omega))
            · refine AR.run g_X5_digest_185_5 192 [some (.ref 16384), some (.int (nI (j185))), none] [.int (nI (5)), .ref 16385, .int (nI (5)), .int (nI (j185))] _ [] rfl trivial ?_
              refine AR.ald (n := 0) (e := 5) ok_X5_digest_192 (by first | rfl | (simp only [nI_add, pk_mul]; first | done | rfl)) rfl (by omega) (by first | decide | omega) ?_
              refine AR.top hZ.2.2.2.1.1 ?_
              refine AR.run g_X5_digest_193_1 194 [some (.ref 16384), some (.int (nI (j185))), none] [.int ((nI (5)) * (nI (ne))), .int (nI (j185))] _ [] rfl trivial ?_
              refine AR.ge2N (tgt := 217) (a := j185) (b := (5 * ne)) dc_X5_digest_194 (by decide) (by first | rfl | (simp only [nI_add, pk_mul]; first | done | rfl)) (by first | rfl | (simp only [nI_add, pk_mul]; first | done | rfl)) (by omega) (by omega) (fun c194_22 => absurd c194_22 (by omega)) (fun c194_22 => ?_)
              refine AR.run g_X5_digest_197_6 206 [some (.ref 16384), some (.int (nI (j185))), none] [.int ((nI (123)) + (nI (j185))), .ref 16385, .ref 16384] _ [] rfl trivial ?_
              refine AR.ald (n := 0) (e := (123 + j185)) ok_X5_digest_206 (by first | rfl | (simp only [nI_add, pk_mul]; first | done | rfl)) rfl (by omega) (by first | decide | omega) ?_
              refine AR.run g_X5_digest_207_1 208 [some (.ref 16384), some (.int (nI (j185))), none] [.long ((z (123 + j185)).toInt64), .ref 16384] _ [] rfl trivial ?_
              refine AR.callV0 (16384) [.long ((z (123 + j185)).toInt64)] [] lk_5_241 dc_X5_digest_208 rfl rfl (s_5mix _ ((z (123 + j185)).toInt64) ) (by first | rfl | (simp only [nI_add, pk_mul]; first | done | rfl)) rfl ?_
              refine AR.run g_X5_digest_211_2 185 [some (.ref 16384), some (.int ((nI (j185)) + (nI (1)))), none] [] _ [] rfl trivial ?_
              have e23 : L_5digest_185 nv nc nr ne z sa sv (j185 + 1) = (F_5mix_hh ((z (123 + j185)).toInt64) (L_5digest_185 nv nc nr ne z sa sv j185)) := by rw [L_5digest_185, B_5digest_185]
              exact AR.cast (L' := [some (.ref 16384), some (.int (nI (j185 + 1))), none]) (by first | rfl | rw [nI_add]) rfl (by rw [e23]) (ih185 (by first | trivial | omega))
            · refine AR.run g_X5_digest_185_5 192 [some (.ref 16384), some (.int (nI (5 * ne))), none] [.int (nI (5)), .ref 16385, .int (nI (5)), .int (nI (5 * ne))] _ [] rfl trivial ?_
              refine AR.ald (n := 0) (e := 5) ok_X5_digest_192 (by first | rfl | (simp only [nI_add, pk_mul]; first | done | rfl)) rfl (by omega) (by first | decide | omega) ?_
              refine AR.top hZ.2.2.2.1.1 ?_
              refine AR.run g_X5_digest_193_1 194 [some (.ref 16384), some (.int (nI (5 * ne))), none] [.int ((nI (5)) * (nI (ne))), .int (nI (5 * ne))] _ [] rfl trivial ?_
              refine AR.ge2N (tgt := 217) (a := 5 * ne) (b := (5 * ne)) dc_X5_digest_194 (by decide) (by first | rfl | (simp only [nI_add, pk_mul]; first | done | rfl)) (by first | rfl | (simp only [nI_add, pk_mul]; first | done | rfl)) (by omega) (by omega) (fun c194_24 => ?_) (fun c194_24 => absurd c194_24 (by omega))
              refine AR.run g_X5_digest_217_1 218 [some (.ref 16384), some (.int (nI (5 * ne))), none] [.ref 16384] _ [] rfl trivial ?_
              refine AR.callV0 (16384) [] [] lk_5_256 dc_X5_digest_218 rfl rfl (s_5mixAhead _  (by assumption) (by assumption) (by assumption)) (by first | rfl | (simp only [nI_add, pk_mul]; first | done | rfl)) rfl ?_
              refine AR.run g_X5_digest_221_3 226 [some (.ref 16384), some (.int (nI (5 * ne))), none] [.int (ln), .ref 16384] _ [] rfl trivial ?_
              refine AR.top hln ?_
              refine AR.run g_X5_digest_226_1 227 [some (.ref 16384), some (.int (nI (5 * ne))), none] [.long ((nI (q)).toInt64), .ref 16384] _ [] rfl trivial ?_
              refine AR.callV0 (16384) [.long ((nI (q)).toInt64)] [] lk_5_241 dc_X5_digest_227 rfl rfl (s_5mix _ ((nI (q)).toInt64) ) (by first | rfl | (simp only [nI_add, pk_mul]; first | done | rfl)) rfl ?_
              refine AR.run g_X5_digest_230_2 232 [some (.ref 16384), some (.int (nI (0))), none] [] _ [] rfl trivial ?_
              refine AR.cast (L' := [some (.ref 16384), some (.int (nI (0))), none]) (by first | rfl | (rw [L_5digest_232])) rfl (by first | rfl | (rw [L_5digest_232])) (AR.loopN q (fun j232 => [some (.ref 16384), some (.int (nI (j232))), none]) (fun j232 => (hp o0 a0 t0 p0 (mo z (F_5mixAhead_sa z ((L_5digest_88 nv nc nr ne z sa sv nc).2)) ro te fr to un (F_5mixAhead_ga nv nc z ga) (F_5mixAhead_pi nv nc z ga pi be) (F_5mixAhead_be nv nc z ga pi be) (F_5mixAhead_bm nv nc z ga pi be) en sta sv ln (nI (0)) (L_5digest_232 nv nc nr ne q z sa te ga pi be sv j232)) u0 l0)) (fun j232 => True) (fun j232 hj232 hI232 ih232 => ?_) (fun hI232 => ?_) 0 (by omega) (by first | trivial | omega))
              · refine AR.run g_X5_digest_232_3 237 [some (.ref 16384), some (.int (nI (j232))), none] [.int (ln), .int (nI (j232))] _ [] rfl trivial ?_
                refine AR.top hln ?_
                refine AR.ge2N (tgt := 257) (a := j232) (b := q) dc_X5_digest_237 (by decide) (by first | rfl | (simp only [nI_add, pk_mul]; first | done | rfl)) (by first | rfl | (simp only [nI_add, pk_mul]; first | done | rfl)) (by omega) (by omega) (fun c237_25 => absurd c237_25 (by omega)) (fun c237_25 => ?_)
                refine AR.run g_X5_digest_240_4 246 [some (.ref 16384), some (.int (nI (j232))), none] [.int (nI (j232)), .ref 16388, .ref 16384] _ [] rfl trivial ?_
                refine AR.ald (n := 0) (e := j232) ok_X5_digest_246 (by first | rfl | (simp only [nI_add, pk_mul]; first | done | rfl)) rfl (by omega) (by first | decide | omega) ?_
                refine AR.run g_X5_digest_247_1 248 [some (.ref 16384), some (.int (nI (j232))), none] [.long ((te j232).toInt64), .ref 16384] _ [] rfl trivial ?_
                refine AR.callV0 (16384) [.long ((te j232).toInt64)] [] lk_5_241 dc_X5_digest_248 rfl rfl (s_5mix _ ((te j232).toInt64) ) (by first | rfl | (simp only [nI_add, pk_mul]; first | done | rfl)) rfl ?_
                refine AR.run g_X5_digest_251_2 232 [some (.ref 16384), some (.int ((nI (j232)) + (nI (1)))), none] [] _ [] rfl trivial ?_
                have e26 : L_5digest_232 nv nc nr ne q z sa te ga pi be sv (j232 + 1) = (F_5mix_hh ((te j232).toInt64) (L_5digest_232 nv nc nr ne q z sa te ga pi be sv j232)) := by rw [L_5digest_232, B_5digest_232]
                exact AR.cast (L' := [some (.ref 16384), some (.int (nI (j232 + 1))), none]) (by first | rfl | rw [nI_add]) rfl (by rw [e26]) (ih232 (by first | trivial | omega))
              · refine AR.run g_X5_digest_232_3 237 [some (.ref 16384), some (.int (nI (q))), none] [.int (ln), .int (nI (q))] _ [] rfl trivial ?_
                refine AR.top hln ?_
                refine AR.ge2N (tgt := 257) (a := q) (b := q) dc_X5_digest_237 (by decide) (by first | rfl | (simp only [nI_add, pk_mul]; first | done | rfl)) (by first | rfl | (simp only [nI_add, pk_mul]; first | done | rfl)) (by omega) (by omega) (fun c237_27 => ?_) (fun c237_27 => absurd c237_27 (by omega))
                refine AR.run g_X5_digest_257_2 261 [some (.ref 16384), some (.int (nI (q))), none] [.long (L_5digest_232 nv nc nr ne q z sa te ga pi be sv q)] _ [] rfl trivial ?_
                have e28_0 : F_5digest nv nc nr ne q z sa te ga pi be sv = (L_5digest_232 nv nc nr ne q z sa te ga pi be sv q) := by rw [F_5digest]
                have e28_1 : F_5digest_sa nv nc nr ne z sa sv = (F_5mixAhead_sa z ((L_5digest_88 nv nc nr ne z sa sv nc).2)) := by rw [F_5digest_sa]
                have e28_2 : F_5digest_ga nv nc z ga = (F_5mixAhead_ga nv nc z ga) := by rw [F_5digest_ga]
                have e28_3 : F_5digest_pi nv nc z ga pi be = (F_5mixAhead_pi nv nc z ga pi be) := by rw [F_5digest_pi]
                have e28_4 : F_5digest_be nv nc z ga pi be = (F_5mixAhead_be nv nc z ga pi be) := by rw [F_5digest_be]
                have e28_5 : F_5digest_bm nv nc z ga pi be = (F_5mixAhead_bm nv nc z ga pi be) := by rw [F_5digest_bm]
                have e28_6 : F_5digest_th = (nI (0)) := by rw [F_5digest_th]
                have e28_7 : F_5digest_hh nv nc nr ne q z sa te ga pi be sv = (L_5digest_232 nv nc nr ne q z sa te ga pi be sv q) := by rw [F_5digest_hh]
                exact AR.retL dc_X5_digest_261 rfl e28_0.symm (by rw [e28_1, e28_2, e28_3, e28_4, e28_5, e28_6, e28_7])
end
