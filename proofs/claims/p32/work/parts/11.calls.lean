theorem ab_gin : GoodIn ab_W ab_W := fun w h => ⟨h, ab_W_good h⟩
theorem ab_ginM {M : AM} (hc : ab_cond M ∈ ab_W) : GoodIn ab_W (ab_ws M) := fun w h => by
  rcases List.mem_cons.mp h with e | e
  · rw [e]; exact ⟨hc, ab_W_good hc⟩
  · exact ⟨e, ab_W_good e⟩
def ab_nMH (s : String) : Bool := decide (s ≠ "java/lang/invoke/MethodHandle") && decide (s ≠ "java/lang/invoke/VarHandle")
def ab_pars (M : AM) (n : Nat) : Bool := ab_nMH M.y.cls && decide ((parseMethodDescriptor M.y.desc).map (fun d => d.parameters.length) = some n) && Nat.ble M.maxL 31
/-- a static call's words; a virtual one's; a constructor's -/
def ab_lkS (own : String) (idx : Nat) (M : AM) (n : Nat) (is : List Nat) : Bool := ab_ats is [.methodLink own idx M.y, .static M.y, .initialized M.y.cls, ab_cond M] && ab_pars M n
def ab_lkV (own : String) (idx : Nat) (M : AM) (n : Nat) (is : List Nat) : Bool := ab_ats is [.methodLink own idx M.y, .instanceMethod M.y, .selects M.y.cls M.y M.y, .initialized M.y.cls, ab_cond M] && ab_pars M n
def ab_lkI (own : String) (idx : Nat) (M : AM) (n : Nat) (is : List Nat) : Bool := ab_ats is [.methodLink own idx M.y, .instanceMethod M.y, .initialized M.y.cls, ab_cond M] && ab_pars M n && decide (M.y.name = "<init>") && decide (M.ret = none) && decide (M.hh = [])
def ab_lkN (own : String) (idx : Nat) (M : AM) (n : Nat) (is : List Nat) : Bool := ab_ats is [.instanceMethod M.y, .initialized M.y.cls, ab_cond M] && ab_pars M n && decide (M.y.name = "<init>") && decide (M.ret = none) && decide (M.hh = []) && decide (own = "LeafCradles") && decide ((idx, M.y) ∈ ab_nest)
theorem ab_pars_ok {M : AM} {n : Nat} (h : ab_pars M n = true) : (M.y.cls ≠ "java/lang/invoke/MethodHandle" ∧ M.y.cls ≠ "java/lang/invoke/VarHandle" ∧ (parseMethodDescriptor M.y.desc).map (fun d => d.parameters.length) = some n) ∧ M.maxL ≤ 31 := by
  unfold ab_pars ab_nMH at h
  simp only [Bool.and_eq_true, decide_eq_true_eq] at h
  exact ⟨⟨h.1.1.1, h.1.1.2, h.1.2⟩, Nat.le_of_ble_eq_true h.2⟩
section RUN
variable {E : AE} {M Mc : AM} {d pc : Nat} {p : Program} {e : Env} {R : Room} {s : State} {m : MethodId} {args : Array Value} {below : List Frame} {meth : Method} {c : Code} {H : Heap} {locs : List Loc} {cells slots : Nat} {ls : Array Slot} {L : AL}
variable {idx n : Nat} {is : List Nat} {av rest : List Value} {h h1 : AH} {o1 : AR0} {mc1 ms1 : Nat}
theorem ab_pre (C : ab_Ctx E M (d + 1) p R s m args meth c) (hR : ab_R E h s H) (hS : va_S (ab_A E) s.heap H locs) : ∀ U : State, U.heap = H → s.WarmedH U.vm → ab_Pc E av h (av.map (ab_v E)).toArray U := by
  intro U hU hW
  obtain ⟨cx, cb, cml, cr, cown, cw, clk, cnm, cex, cK, cSF, cf, clo, cfi, cfj⟩ := C
  refine ⟨rfl, by rw [hU]; exact ab_R.moved hW.alike hR, va_K.moved hW.alike cK, cSF.moved hW hS hU, ?_, ?_⟩
  · rw [hW.alike.findClass]; exact cfi
  · rw [hW.alike.findClass]; exact cfj
theorem ab_runS (C : ab_Ctx E M (d + 1) p R s m args meth c) (hR : ab_R E h s H) (hS : va_S (ab_A E) s.heap H locs) (hl : lv_has ls M.maxL (ab_lvs E L)) (hk : ab_lkS M.own idx Mc n is = true) (hn : av.length = n) (hc : CT E Mc d av h o1 h1 mc1 ms1) (hcat : ab_cat rest = true) (hd : decode M.bytes pc = .ok (.invokestatic idx, 3)) (f1 : cells + mc1 ≤ R.cells) (f2 : slots + ms1 ≤ R.slots) :
    vx_Run p E.l e R s m args below meth c H locs cells slots mc1 ms1 (F0 m pc ls ((av.reverse ++ rest).map (ab_v E))) (rest.map (ab_v E)) (ab_Qc E o1 h1 (av.map (ab_v E)).toArray) (ab_Xc E o1 h1) (ab_A E) := by
  have hpre := ab_pre (av := av) C hR hS
  obtain ⟨cx, cb, cml, cr, cown, cw, clk, cnm, cex, cK, cSF, cf, clo, cfi, cfj⟩ := id C
  unfold ab_lkS at hk
  rw [Bool.and_eq_true] at hk
  obtain ⟨hk1, hk2⟩ := hk
  have hm := ab_ats_mem hk1
  obtain ⟨hk3, hk4⟩ := ab_pars_ok hk2
  have hcd : ab_cond Mc ∈ ab_W := hm _ (by simp)
  have hcat := ab_cat8 (E := E) hcat
  have hG : GoodIn ab_W (va_wsS M.own idx Mc.y (ab_ws Mc)) := by
    intro w hw
    rcases List.mem_append.mp hw with hw | hw
    · have : w ∈ ab_W := hm w (by simp at hw ⊢; rcases hw with rfl | rfl | rfl <;> simp)
      exact ⟨this, ab_W_good this⟩
    · exact ab_ginM hcd w hw
  have hrm : (ab_rm d mc1 ms1).frames + 1 ≤ R.frames ∧ 8 + (Mc.maxL + 11) + (ab_rm d mc1 ms1).locals ≤ R.locals := ⟨by show d + 8 + 1 ≤ _; omega, by show 8 + (Mc.maxL + 11) + (50 * d + 200) ≤ _; omega⟩
  have hF : CallFix p m c M.bytes M.maxL s args ab_W M.own := ⟨cx, cb, cml, cown, cw⟩
  have hst : (F0 m pc ls ((av.reverse ++ rest).map (ab_v E))).stack = (av.map (ab_v E)).reverse ++ rest.map (ab_v E) := by
    show (av.reverse ++ rest).map (ab_v E) = _
    rw [List.map_append, List.map_reverse]
  cases hh : Mc.hh with
  | nil =>
    have hw : ab_ws Mc = Cond.code Mc.y Mc.bytes Mc.maxL Mc.ret :: ab_W := by unfold ab_ws ab_cond; rw [hh]
    exact vx_runS hF hc (va_cwS n cw hG hw rfl rfl hk3 hrm) ⟨ab_blind E av h, hpre⟩ rfl (by simpa using hn) hl.1 hst (by show 2 * 0 + _ ≤ 8; omega) hd ⟨f1, f2⟩
  | cons q r =>
    have hw : ab_ws Mc = Cond.codeWith Mc.y Mc.bytes Mc.maxL Mc.ret (q :: r) :: ab_W := by unfold ab_ws ab_cond; rw [hh]
    exact vx_runSX hF hc (vx_cwSW n cw hG hw rfl rfl hk3 hrm) ⟨ab_blind E av h, hpre⟩ rfl (by simpa using hn) hl.1 hst (by show 2 * 0 + _ ≤ 8; omega) hd ⟨f1, f2⟩
theorem ab_runV {q ci : Nat} {fs : List Value} (C : ab_Ctx E M (d + 1) p R s m args meth c) (hR : ab_R E h s H) (hS : va_S (ab_A E) s.heap H locs) (hl : lv_has ls M.maxL (ab_lvs E L)) (hk : ab_lkV M.own idx Mc n is = true) (hg : ab_get h q = some (.inr (ci, fs))) (hci : (vwCl[ci]?).map (·.1) = some Mc.y.cls) (hn : av.length = n) (hc : CT E Mc d (.ref q :: av) h o1 h1 mc1 ms1) (hcat : ab_cat rest = true) (hd : decode M.bytes pc = .ok (.invokevirtual idx, 3)) (f1 : cells + mc1 ≤ R.cells) (f2 : slots + ms1 ≤ R.slots) :
    vx_Run p E.l e R s m args below meth c H locs cells slots mc1 ms1 (F0 m pc ls ((av.reverse ++ .ref q :: rest).map (ab_v E))) (rest.map (ab_v E)) (ab_Qc E o1 h1 ((.ref q :: av).map (ab_v E)).toArray) (ab_Xc E o1 h1) (ab_A E) := by
  have hpre := ab_pre (av := .ref q :: av) C hR hS
  obtain ⟨cx, cb, cml, cr, cown, cw, clk, cnm, cex, cK, cSF, cf, clo, cfi, cfj⟩ := id C
  unfold ab_lkV at hk
  rw [Bool.and_eq_true] at hk
  obtain ⟨hk1, hk2⟩ := hk
  have hm := ab_ats_mem hk1
  obtain ⟨hk3, hk4⟩ := ab_pars_ok hk2
  have hcd : ab_cond Mc ∈ ab_W := hm _ (by simp)
  have hcat := ab_cat8 (E := E) hcat
  have hG : GoodIn ab_W (wsV M.own idx Mc.y.cls Mc.y (ab_ws Mc)) := by
    intro w hw
    rcases List.mem_append.mp hw with hw | hw
    · have : w ∈ ab_W := hm w (by simp at hw ⊢; rcases hw with rfl | rfl | rfl | rfl <;> simp)
      exact ⟨this, ab_W_good this⟩
    · exact ab_ginM hcd w hw
  have hrm : (ab_rm d mc1 ms1).frames + 1 ≤ R.frames ∧ 8 + (Mc.maxL + 11) + (ab_rm d mc1 ms1).locals ≤ R.locals := ⟨by show d + 8 + 1 ≤ _; omega, by show 8 + (Mc.maxL + 11) + (50 * d + 200) ≤ _; omega⟩
  have hF : CallFix p m c M.bytes M.maxL s args ab_W M.own := ⟨cx, cb, cml, cown, cw⟩
  have hst : (F0 m pc ls ((av.reverse ++ .ref q :: rest).map (ab_v E))).stack = (av.map (ab_v E)).reverse ++ .ref (ab_adr E q) :: rest.map (ab_v E) := by
    show (av.reverse ++ .ref q :: rest).map (ab_v E) = _
    rw [List.map_append, List.map_reverse]
    rfl
  have q0 := ab_new_of hR hg
  have ha := hR.2.2.2.1 q _ q0 hg
  obtain ⟨x, hx, hx2⟩ : ∃ x, vwCl[ci]? = some x ∧ x.1 = Mc.y.cls := by
    cases hz : vwCl[ci]? with
    | none => rw [hz] at hci; cases hci
    | some x => rw [hz] at hci; exact ⟨x, rfl, Option.some.inj hci⟩
  have hrec : ∃ cellB : Cell, H[ab_adr E q]? = some cellB ∧ cellB.vm.isStatics = false ∧ s.vm.findClass Mc.y.cls = some cellB.cls := by
    have := va_recv (tys := ab_tys E) cK (ab_P1 ha) (q0 := 0) hx rfl
    rw [hx2] at this
    exact this
  cases hh : Mc.hh with
  | nil =>
    have hw : ab_ws Mc = Cond.code Mc.y Mc.bytes Mc.maxL Mc.ret :: ab_W := by unfold ab_ws ab_cond; rw [hh]
    exact vx_runV (As := av.map (ab_v E)) hF hc (cwV n cw hG hw rfl rfl ⟨rfl, hk3⟩ hrm) ⟨ab_blind E _ h, hrec, hpre⟩ rfl (by simpa using hn) hl.1 hst (by show 2 * 0 + _ ≤ 8; omega) hd ⟨f1, f2⟩
  | cons x r =>
    have hw : ab_ws Mc = Cond.codeWith Mc.y Mc.bytes Mc.maxL Mc.ret (x :: r) :: ab_W := by unfold ab_ws ab_cond; rw [hh]
    exact vx_runVX (As := av.map (ab_v E)) hF hc (vx_cwVW n cw hG hw rfl rfl ⟨rfl, hk3⟩ hrm) ⟨ab_blind E _ h, hrec, hpre⟩ rfl (by simpa using hn) hl.1 hst (by show 2 * 0 + _ ≤ 8; omega) hd ⟨f1, f2⟩
end RUN
/-- from here, with an exception of class En in flight -/
def ARX (E : AE) (M : AM) (d pc : Nat) (L : AL) (st : List Value) (h : AH) (En : String) (o : AR0) (h' : AH) (mc ms : Nat) : Prop :=
  ∀ (p : Program) (e : Env) (R : Room) (s : State) (m : MethodId) (args : Array Value) (below : List Frame) (meth : Method) (c : Code) (H : Heap) (locs : List Loc) (cells slots : Nat) (ls : Array Slot) (mcT msT : Nat),
    ab_Ctx E M d p R s m args meth c → ab_R E h s H → va_S (ab_A E) s.heap H locs → lv_has ls M.maxL (ab_lvs E L) → cells + mc ≤ mcT → slots + ms ≤ msT → mcT ≤ R.cells → msT ≤ R.slots →
    ∀ (ce : Cell) (q9 : Addr), H[q9]? = some ce → ce.vm = .none → s.vm.findClass En = some ce.cls →
    vx_W p E.l e R s m args below meth c H locs cells slots (vx_MQ below (ab_Qc E o h') (ab_Xc E o h') args s mcT msT (ab_A E)) (F0 m pc ls (st.map (ab_v E))) q9
section CALL
variable {E : AE} {M Mc : AM} {d pc : Nat} {L : AL} {st rest : List Value} {h h1 : AH} {o : AR0} {h' : AH} {mc ms mc1 ms1 : Nat} {idx : Nat} {is : List Nat} {av : List Value} {r : Option Value} {En : String}
theorem ab_close {p : Program} {e : Env} {R : Room} {s : State} {m : MethodId} {args : Array Value} {below : List Frame} {meth : Method} {c : Code} {H : Heap} {locs : List Loc} {cells slots : Nat} {ls : Array Slot} {mcT msT : Nat} {a9 : Array Value} {st0 : List Value}
    (C : ab_Ctx E M (d + 1) p R s m args meth c) (hS : va_S (ab_A E) s.heap H locs) (hl : lv_has ls M.maxL (ab_lvs E L)) (b1 : cells + (mc1 + mc) ≤ mcT) (b2 : slots + (ms1 + ms) ≤ msT) (b3 : mcT ≤ R.cells) (b4 : msT ≤ R.slots)
    (hr : vx_Run p E.l e R s m args below meth c H locs cells slots mc1 ms1 (F0 m pc ls st0) (rest.map (ab_v E)) (ab_Qc E (.inl r) h1 a9) (ab_Xc E (.inl r) h1) (ab_A E))
    (k : AR E M (d + 1) (pc + 3) L (r.toList ++ rest) h1 o h' mc ms) : W p E.l e R s m args below meth c H locs cells slots (vx_MQ below (ab_Qc E o h') (ab_Xc E o h') args s mcT msT (ab_A E)) (F0 m pc ls st0) := by
  intro T hT X
  rcases hr T hT X with ⟨v, st₀, t, T', L1, h0, X', hL, e1, e2, ⟨r', hr1, hr2, hR1, hF⟩, hgo⟩ | ⟨q, st₀, t, T', L1, E1, ce, h0, X', hL, e1, e2, ⟨hz, -, -⟩, -⟩
  · cases hr1
    cases hr2
    obtain ⟨k1, k2, k3⟩ := vx_keep h0 e1 hS (A1 := ab_A E) (fun _ _ z => z) (fun _ z => z) hL hF
    have hal : t.vm.Alike s.vm := by rw [← e2]; exact X'.warmed.alike.symm
    have hR2 : ab_R E h1 s T'.heap := by rw [e1]; exact ab_R.moved hal hR1
    obtain ⟨t2, a1, b1'⟩ := k p e R s m args below meth c T'.heap (locs ++ L1) (cells + mc1) (slots + ms1) ls mcT msT C hR2 k3 hl (by omega) (by omega) b3 b4 T' rfl X'
    refine ⟨t2, hgo t2 ?_, b1'⟩
    have : (Option.map (ab_v E) r).toList ++ List.map (ab_v E) rest = List.map (ab_v E) (r.toList ++ rest) := by cases r <;> rfl
    rw [this]
    exact a1
  · cases hz
theorem ab_closeX {p : Program} {e : Env} {R : Room} {s : State} {m : MethodId} {args : Array Value} {below : List Frame} {meth : Method} {c : Code} {H : Heap} {locs : List Loc} {cells slots : Nat} {ls : Array Slot} {mcT msT : Nat} {a9 : Array Value} {st0 : List Value}
    (C : ab_Ctx E M (d + 1) p R s m args meth c) (hS : va_S (ab_A E) s.heap H locs) (hl : lv_has ls M.maxL (ab_lvs E L)) (b1 : cells + (mc1 + mc) ≤ mcT) (b2 : slots + (ms1 + ms) ≤ msT) (b3 : mcT ≤ R.cells) (b4 : msT ≤ R.slots)
    (hr : vx_Run p E.l e R s m args below meth c H locs cells slots mc1 ms1 (F0 m pc ls st0) (rest.map (ab_v E)) (ab_Qc E (.inr En) h1 a9) (ab_Xc E (.inr En) h1) (ab_A E))
    (k : ARX E M (d + 1) pc L rest h1 En o h' mc ms) : W p E.l e R s m args below meth c H locs cells slots (vx_MQ below (ab_Qc E o h') (ab_Xc E o h') args s mcT msT (ab_A E)) (F0 m pc ls st0) := by
  intro T hT X
  rcases hr T hT X with ⟨v, st₀, t, T', L1, h0, X', hL, e1, e2, ⟨r', hr1, -⟩, hgo⟩ | ⟨q, st₀, t, T', L1, E1, ce, h0, X', hL, e1, e2, ⟨hz, hR1, hF⟩, hce, hcv, hcl, hst⟩
  · cases hr1
  · cases hz
    obtain ⟨k1, k2, k3⟩ := vx_keep h0 e1 hS (A1 := ab_A E) (fun _ _ z => z) (fun _ z => z) hL hF
    have hal : t.vm.Alike s.vm := by rw [← e2]; exact X'.warmed.alike.symm
    have hR2 : ab_R E h1 s T'.heap := by rw [e1]; exact ab_R.moved hal hR1
    obtain ⟨t2, a1, b1'⟩ := k p e R s m args below meth c T'.heap (locs ++ L1) (cells + mc1) (slots + ms1) ls mcT msT C hR2 k3 hl (by omega) (by omega) b3 b4 ce q (by rw [e1]; exact hce) hcv hcl T' rfl X'
    exact ⟨t2, hst.trans a1, b1'⟩
theorem AR.callS (hk : ab_lkS M.own idx Mc av.length is = true) (hd : decode M.bytes pc = .ok (.invokestatic idx, 3)) (hc : CT E Mc d av h (.inl r) h1 mc1 ms1) (hst : st = av.reverse ++ rest) (hcat : ab_cat rest = true) (k : AR E M (d + 1) (pc + 3) L (r.toList ++ rest) h1 o h' mc ms) : AR E M (d + 1) pc L st h o h' (mc1 + mc) (ms1 + ms) := by
  subst hst
  intro p e R s m args below meth c H locs cells slots ls mcT msT C hR hS hl b1 b2 b3 b4
  exact ab_close C hS hl b1 b2 b3 b4 (ab_runS C hR hS hl hk rfl hc hcat hd (by omega) (by omega)) k
theorem AR.callV {q ci : Nat} {fs : List Value} (hk : ab_lkV M.own idx Mc av.length is = true) (hd : decode M.bytes pc = .ok (.invokevirtual idx, 3)) (hg : ab_get h q = some (.inr (ci, fs))) (hci : (vwCl[ci]?).map (·.1) = some Mc.y.cls) (hc : CT E Mc d (.ref q :: av) h (.inl r) h1 mc1 ms1) (hst : st = av.reverse ++ .ref q :: rest) (hcat : ab_cat rest = true) (k : AR E M (d + 1) (pc + 3) L (r.toList ++ rest) h1 o h' mc ms) : AR E M (d + 1) pc L st h o h' (mc1 + mc) (ms1 + ms) := by
  subst hst
  intro p e R s m args below meth c H locs cells slots ls mcT msT C hR hS hl b1 b2 b3 b4
  exact ab_close C hS hl b1 b2 b3 b4 (ab_runV C hR hS hl hk hg hci rfl hc hcat hd (by omega) (by omega)) k
theorem AR.callSX (hk : ab_lkS M.own idx Mc av.length is = true) (hd : decode M.bytes pc = .ok (.invokestatic idx, 3)) (hc : CT E Mc d av h (.inr En) h1 mc1 ms1) (hst : st = av.reverse ++ rest) (hcat : ab_cat rest = true) (k : ARX E M (d + 1) pc L rest h1 En o h' mc ms) : AR E M (d + 1) pc L st h o h' (mc1 + mc) (ms1 + ms) := by
  subst hst
  intro p e R s m args below meth c H locs cells slots ls mcT msT C hR hS hl b1 b2 b3 b4
  exact ab_closeX C hS hl b1 b2 b3 b4 (ab_runS C hR hS hl hk rfl hc hcat hd (by omega) (by omega)) k
theorem AR.callVX {q ci : Nat} {fs : List Value} (hk : ab_lkV M.own idx Mc av.length is = true) (hd : decode M.bytes pc = .ok (.invokevirtual idx, 3)) (hg : ab_get h q = some (.inr (ci, fs))) (hci : (vwCl[ci]?).map (·.1) = some Mc.y.cls) (hc : CT E Mc d (.ref q :: av) h (.inr En) h1 mc1 ms1) (hst : st = av.reverse ++ .ref q :: rest) (hcat : ab_cat rest = true) (k : ARX E M (d + 1) pc L rest h1 En o h' mc ms) : AR E M (d + 1) pc L st h o h' (mc1 + mc) (ms1 + ms) := by
  subst hst
  intro p e R s m args below meth c H locs cells slots ls mcT msT C hR hS hl b1 b2 b3 b4
  exact ab_closeX C hS hl b1 b2 b3 b4 (ab_runV C hR hS hl hk hg hci rfl hc hcat hd (by omega) (by omega)) k
/-- it isn't caught here -/
theorem ARX.out (hh : M.hh = []) : ARX E M d pc L st h En (.inr En) h mc ms := by
  intro p e R s m args below meth c H locs cells slots ls mcT msT C hR hS hl b1 b2 b3 b4 ce q9 hce hcv hcl
  refine vx_out (fun x hx => ?_) C.2.2.2.2.2.2.1 hce hcv hcl (fun t ht hW => ⟨rfl, by rw [ht]; exact ab_R.moved hW hR, hS.F ht⟩) hS.2.2 (by omega) (by omega)
  rw [C.2.2.2.2.2.2.2.2.1, hh] at hx
  cases hx
def ab_pass (own En : String) (pc : Nat) : List ExceptionTableEntry → List (Nat × String) → Bool
  | [], _ => true
  | x :: xs, (i, nm) :: r => (decide (x.catchType ≠ 0) && ab_at i (.classLink own x.catchType nm) && decide ((En, nm) ∈ ab_nc)) && ab_pass own En pc xs r
  | _ :: _, [] => false
theorem ab_pass_ok {own En : String} {pc : Nat} {s : State} {args : Array Value} (hw : ∀ w ∈ ab_W, w.before args s = true) (hn : ∀ q ∈ ab_nc, va_Nc q.1 q.2 s) : ∀ {xs : List ExceptionTableEntry} {r : List (Nat × String)}, ab_pass own En pc xs r = true → ∀ z ∈ xs, covers z pc = false ∨ (z.catchType ≠ 0 ∧ ∃ nm : String, (Cond.classLink own z.catchType nm).before args s = true ∧ va_Nc En nm s)
  | [], _, _ => fun z h => nomatch h
  | x :: xs, (i, nm) :: r, h => fun z hz => by
    simp only [ab_pass, Bool.and_eq_true, decide_eq_true_eq] at h
    rcases List.mem_cons.mp hz with e | e
    · rw [e]; exact Or.inr ⟨h.1.1.1, nm, hw _ (ab_at_mem h.1.1.2), hn _ h.1.2⟩
    · exact ab_pass_ok hw hn h.2 z e
  | _ :: _, [], h => by simp [ab_pass] at h
/-- it is caught here, and put away -/
theorem ARX.catch {a : Nat} {rs : List (Nat × String)} {i9 : Nat} (pre : List ExceptionTableEntry) (x : ExceptionTableEntry) (suf : List ExceptionTableEntry) (hsplit : tableOf M.hh = pre ++ x :: suf) (hpass : ab_pass M.own En pc pre rs = true) (hx : covers x pc = true) (h0 : x.catchType ≠ 0) (hlink : ab_at i9 (.classLink M.own x.catchType En) = true) (hexs : En ∈ ab_exs)
    (hd : decode M.bytes x.handlerPc = .ok (.astore a, 2) ∨ ∃ a4 : Fin 4, (a4 : Nat) = a ∧ decode M.bytes x.handlerPc = .ok (.astore_n a4, 1)) (ha : a < M.maxL) {tgt : Nat} (htg : decode M.bytes x.handlerPc = .ok (.astore a, 2) ∧ tgt = x.handlerPc + 2 ∨ (∃ a4 : Fin 4, (a4 : Nat) = a ∧ decode M.bytes x.handlerPc = .ok (.astore_n a4, 1)) ∧ tgt = x.handlerPc + 1)
    (k : AR E M d tgt ((ab_clr L a).set a none) [] h o h' mc ms) : ARX E M d pc L st h En o h' mc ms := by
  intro p e R s m args below meth c H locs cells slots ls mcT msT C hR hS hl b1 b2 b3 b4 ce q9 hce hcv hcl
  have hput : ∀ ls' : Array Slot, lv_has ls' M.maxL ((a, Value.ref q9) :: (ab_lvs E L).filter (fun q => !(q.1 == a) && !(q.1 + 1 == a && q.2.category == 2))) → lv_has ls' M.maxL (ab_lvs E ((ab_clr L a).set a none)) := by
    intro ls' hl'
    refine ab_has_of hl' fun q hq => ?_
    obtain ⟨w, h1, h2⟩ := ab_lvs_mem.mp hq
    by_cases e9 : q.1 = a
    · rw [e9, List.getElem?_set] at h1
      split at h1
      · split at h1 <;> cases h1
      · exact absurd rfl (by assumption)
    · rw [List.getElem?_set_ne (fun z => e9 z.symm)] at h1
      obtain ⟨g1, g2⟩ := ab_clr_get L a q.1 w h1
      refine List.mem_cons_of_mem _ (List.mem_filter.mpr ⟨ab_lvs_mem.mpr ⟨w, g1, h2⟩, ?_⟩)
      rw [h2, ab_cat_v]
      simp [e9]
      omega
  refine vx_catch C.2.2.2.2.1 pre x suf (by rw [C.2.2.2.2.2.2.2.2.1]; exact hsplit) (ab_pass_ok C.2.2.2.2.2.1 C.2.2.2.2.2.2.2.2.2.2.1.2.2.2.2.1 hpass) hx h0 (C.2.2.2.2.2.1 _ (ab_at_mem hlink)) ((C.2.2.2.2.2.2.2.2.2.2.1.2.2.2.2.2.2.2.2.1 En hexs).word) hce hcv hcl ?_
  rcases htg with ⟨hd2, rfl⟩ | ⟨⟨a4, ha4, hd2⟩, rfl⟩
  · exact lv_astore (lv' := _) C.1 C.2.1 hd2 hl ha rfl (fun ls' hl' => k p e R s m args below meth c H locs cells slots ls' mcT msT C hR hS (hput ls' hl') b1 b2 b3 b4)
  · exact lv_astore_n (lv' := _) C.1 C.2.1 hd2 ha4 hl ha rfl (fun ls' hl' => k p e R s m args below meth c H locs cells slots ls' mcT msT C hR hS (hput ls' hl') b1 b2 b3 b4)
end CALL
