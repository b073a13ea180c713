theorem CT.met {E : AE} {M : AM} {d : Nat} {av : List Value} {h : AH} {r : Option Value} {h' : AH} {mc ms : Nat} (hc : CT E M d av h (.inl r) h' mc ms) : Met E.l M.y (ab_ws M) (ab_rm d mc ms) (ab_Pc E av h) (ab_Qc E (.inl r) h') mc ms (ab_A E) := by
  intro p e ha hcs hk s m args below hf happ hP hK
  obtain ⟨n, o, h1, h2, h3, h4⟩ := hc p e ha hcs hk s m args below hf happ hP hK
  refine ⟨n, o, h1, h2, h3, ?_⟩
  rcases h4 with h4 | ⟨q, rfl, En, ce, L, ⟨hz, -⟩, -⟩
  · exact h4
  · cases hz
section NEW
variable {E : AE} {M Mc : AM} {d pc : Nat} {L : AL} {st rest : List Value} {h h1 : AH} {o : AR0} {h' : AH} {mc ms mc1 ms1 : Nat} {idx : Nat} {is : List Nat} {av : List Value}
theorem ab_ofRun {p : Program} {l : Launch} {e : Env} {R : Room} {s : State} {m : MethodId} {args : Array Value} {below : List Frame} {meth : Method} {c : Code} {H : Heap} {locs : List Loc} {cells slots mc ms : Nat} {g : JFrame} {rest : List Value} {Qa : State → Outcome → State → Prop} {XC : String → State → State → Prop} {free : Addr → Prop} (h : va_Run p l e R s m args below meth c H locs cells slots mc ms g rest Qa free) : vx_Run p l e R s m args below meth c H locs cells slots mc ms g rest Qa XC free := fun T hT X => Or.inl (h T hT X)
theorem AR.callI {q : Nat} (hk : ab_lkI M.own idx Mc av.length is = true) (hd : decode M.bytes pc = .ok (.invokespecial idx, 3)) (hc : CT E Mc d (.ref q :: av) h (.inl none) h1 mc1 ms1) (hstk : st = av.reverse ++ .ref q :: rest) (hcat : ab_cat rest = true) (k : AR E M (d + 1) (pc + 3) L rest h1 o h' mc ms) : AR E M (d + 1) pc L st h o h' (mc1 + mc) (ms1 + ms) := by
  subst hstk
  intro p e R s m args below meth c H locs cells slots ls mcT msT C hR hS hl b1 b2 b3 b4
  refine ab_close (r := none) (a9 := ((Value.ref q :: av).map (ab_v E)).toArray) C hS hl b1 b2 b3 b4 (ab_ofRun ?_) k
  have hpre := ab_pre (av := .ref q :: av) C hR hS
  obtain ⟨cx, cb, cml, cr, cown, cw, clk, cnm, cex, cK, cSF, cf, clo, cfi, cfj⟩ := id C
  simp only [ab_lkI, Bool.and_eq_true, decide_eq_true_eq] at hk
  obtain ⟨⟨⟨⟨hk1, hk2⟩, hnm⟩, hret⟩, hh⟩ := hk
  have hm := ab_ats_mem hk1
  obtain ⟨hk3, hk4⟩ := ab_pars_ok hk2
  have hcd : ab_cond Mc ∈ ab_W := hm _ (by simp)
  have hcat := ab_cat8 (E := E) hcat
  have hrm : (ab_rm d mc1 ms1).frames + 1 ≤ R.frames ∧ 8 + (Mc.maxL + 11) + (ab_rm d mc1 ms1).locals ≤ R.locals := ⟨by show d + 8 + 1 ≤ _; omega, by show 8 + (Mc.maxL + 11) + (50 * d + 200) ≤ _; omega⟩
  have hF : CallFix p m c M.bytes M.maxL s args ab_W M.own := ⟨cx, cb, cml, cown, cw⟩
  have hst : (F0 m pc ls ((av.reverse ++ .ref q :: rest).map (ab_v E))).stack = (av.map (ab_v E)).reverse ++ .ref (ab_adr E q) :: rest.map (ab_v E) := by
    show (av.reverse ++ .ref q :: rest).map (ab_v E) = _
    rw [List.map_append, List.map_reverse]
    rfl
  have hw : ab_ws Mc = Cond.code Mc.y Mc.bytes Mc.maxL none :: ab_W := by unfold ab_ws ab_cond; rw [hh, hret]
  exact va_runI (b := ab_adr E q) (As := av.map (ab_v E)) hF hc.met (by
      have hcb : CallB R s args M.own idx Mc.y Mc.bytes Mc.maxL none (ab_ws Mc) (ab_rm d mc1 ms1) mc1 ms1 av.length := callB_of av.length cw (ab_ginM hcd) hw rfl rfl (cw _ (hm _ (by simp))) (cw _ (hm _ (by simp))) hk3 hrm
      exact ⟨hcb, hnm, cw _ (hm _ (by simp))⟩) ⟨ab_blind E _ h, hpre⟩ rfl (by simp) hl.1 hst (by show 2 * 0 + _ ≤ 8; omega) hd ⟨by omega, by omega⟩
theorem AR.callN {q : Nat} (hk : ab_lkN M.own idx Mc av.length is = true) (hd : decode M.bytes pc = .ok (.invokespecial idx, 3)) (hc : CT E Mc d (.ref q :: av) h (.inl none) h1 mc1 ms1) (hstk : st = av.reverse ++ .ref q :: rest) (hcat : ab_cat rest = true) (k : AR E M (d + 1) (pc + 3) L rest h1 o h' mc ms) : AR E M (d + 1) pc L st h o h' (mc1 + mc) (ms1 + ms) := by
  subst hstk
  intro p e R s m args below meth c H locs cells slots ls mcT msT C hR hS hl b1 b2 b3 b4
  refine ab_close (r := none) (a9 := ((Value.ref q :: av).map (ab_v E)).toArray) C hS hl b1 b2 b3 b4 (ab_ofRun ?_) k
  have hpre := ab_pre (av := .ref q :: av) C hR hS
  obtain ⟨cx, cb, cml, cr, cown, cw, clk, cnm, cex, cK, cSF, cf, clo, cfi, cfj⟩ := id C
  simp only [ab_lkN, Bool.and_eq_true, decide_eq_true_eq] at hk
  obtain ⟨⟨⟨⟨⟨⟨hk1, hk2⟩, hnm⟩, hret⟩, hh⟩, hownL⟩, hnst⟩ := hk
  have hm := ab_ats_mem hk1
  obtain ⟨hk3, hk4⟩ := ab_pars_ok hk2
  have hcd : ab_cond Mc ∈ ab_W := hm _ (by simp)
  have hcat := ab_cat8 (E := E) hcat
  have hrm : (ab_rm d mc1 ms1).frames + 1 ≤ R.frames ∧ 8 + (Mc.maxL + 11) + (ab_rm d mc1 ms1).locals ≤ R.locals := ⟨by show d + 8 + 1 ≤ _; omega, by show 8 + (Mc.maxL + 11) + (50 * d + 200) ≤ _; omega⟩
  have hF : CallFix p m c M.bytes M.maxL s args ab_W M.own := ⟨cx, cb, cml, cown, cw⟩
  have hst : (F0 m pc ls ((av.reverse ++ .ref q :: rest).map (ab_v E))).stack = (av.map (ab_v E)).reverse ++ .ref (ab_adr E q) :: rest.map (ab_v E) := by
    show (av.reverse ++ .ref q :: rest).map (ab_v E) = _
    rw [List.map_append, List.map_reverse]
    rfl
  have hw : ab_ws Mc = Cond.code Mc.y Mc.bytes Mc.maxL none :: ab_W := by unfold ab_ws ab_cond; rw [hh, hret]
  exact va_runIN (b := ab_adr E q) (As := av.map (ab_v E)) hF hc.met (by
      refine ⟨va_cnB (host := "LeafCradles") av.length cw (ab_ginM hcd) hw rfl rfl ?_ (cw _ (hm _ (by simp))) hk3 hrm, hnm, cw _ (hm _ (by simp))⟩
      rw [hownL]
      exact cSF.2.2.2.2.2.1 _ hnst) ⟨ab_blind E _ h, hpre⟩ rfl (by simp) hl.1 hst (by show 2 * 0 + _ ≤ 8; omega) hd ⟨by omega, by omega⟩
theorem ab_R_tail {U : State} {H : Heap} (hR : ab_R E h U H) (hex : E.ex = true) {tl : List AC} (htl : h[E.caps.length + 1]? = some tl) (hlt : tl.length < 4096) : ab_adr E (4096 * (E.caps.length + 1) + tl.length) = H.size := by
  obtain ⟨g1, ⟨t, g2, -, g3e⟩, -⟩ := hR
  cases htl.symm.trans g2
  have g3 := g3e hex
  have e1 : (4096 * (E.caps.length + 1) + tl.length) / 4096 = E.caps.length + 1 := by omega
  have e2 : (4096 * (E.caps.length + 1) + tl.length) % 4096 = tl.length := by omega
  unfold ab_adr
  rw [e1, e2, if_neg (by omega), show E.caps.length + 1 - 1 = E.caps.length by omega, ab_off_all, g3]
theorem ab_S_push {A : Nat → Prop} {H0 H H1 : Heap} {locs : List Loc} (hS : va_S A H0 H locs) (z1 : H1.size = H.size + 1) (o1 : ∀ q, q < H.size → H1[q]? = H[q]?) : va_S A H0 H1 locs := ⟨Nat.le_trans hS.1 (by omega), fun x h1 h2 => (o1 x (Nat.lt_of_lt_of_le h1 hS.1)).trans (hS.2.1 x h1 h2), hS.2.2⟩
theorem AR.new {ci : Nat} {Cn : String} {T : u_T} {N i9 : Nat} {fs : List Value} {tl : List AC} (hex : E.ex = true) (hcl : vwCl[ci]? = some (Cn, T, N)) (hlk : ab_at i9 (.classLink M.own idx Cn) = true) (hd : decode M.bytes pc = .ok (.new idx, 3)) (htl : h[E.caps.length + 1]? = some tl) (hlt : tl.length < 4096) (hfs : ∀ j, j < N → defaultValue (ab_ty ci j) = vp_V fs j) (hmap : fs.map (ab_v E) = fs) (k : AR E M d (pc + 3) L (.ref (4096 * (E.caps.length + 1) + tl.length) :: st) (ab_push h (.inr (ci, fs))) o h' mc ms) : AR E M d pc L st h o h' (mc + 1) (ms + N) := by
  intro p e R s m args below meth c H locs cells slots ls mcT msT C hR hS hl b1 b2 b3 b4
  obtain ⟨cx, cb, cml, cr, cown, cw, clk, cnm, cex, cK, cSF, cf, clo, cfi, cfj⟩ := id C
  obtain ⟨hin, hins, hini, hty, hnm, hCT⟩ := ab_cls ci Cn T N hcl
  have hKn := cK.1 ci _ hcl
  have hts : ∀ w ∈ ab_W, w.before args s = true := cw
  have had := ab_R_tail hR hex htl hlt
  refine W.newcK cx cb cown (cw _ (ab_at_mem hlk)) (cw _ hins) (cw _ hini) rfl hd (by omega) (by omega) hKn.2.1 rfl fun H1 kC hkC e1 z1 o1 => ?_
  have hva : va_at E.D vwCl (H.size, ab_cell E (.inr (ci, fs))) H1 := by
    show va_at E.D vwCl (H.size, .inr (ci, fs.map (ab_v E))) H1
    rw [hmap]
    exact ⟨_, hcl, (u_born (ab_ty ci) hts hin hKn hkC e1 hty).to hfs⟩
  have hgo := k p e R s m args below meth c H1 locs (cells + 1) (slots + N) ls mcT msT C (ab_R_push hR hex hva z1 o1).1 (ab_S_push hS z1 o1) hl (by omega) (by omega) b3 b4
  rw [← had]
  exact hgo
theorem AR.newaI {x : Int32} {N i9 : Nat} {tl : List AC} (hex : E.ex = true) (hlk : ab_at i9 (.arrayClass .int) = true) (hd : decode M.bytes pc = .ok (.newarray .int, 2)) (htl : h[E.caps.length + 1]? = some tl) (hlt : tl.length < 4096) (hx : ¬ x < 0) (hN : x.toNatClampNeg = N) (hb : N ≤ 60000000) (k : AR E M d (pc + 2) L (.ref (4096 * (E.caps.length + 1) + tl.length) :: st) (ab_push h (.inl (.inl (N, fun _ => 0)))) o h' mc ms) : AR E M d pc L (.int x :: st) h o h' (mc + 1) (ms + N) := by
  intro p e R s m args below meth c H locs cells slots ls mcT msT C hR hS hl b1 b2 b3 b4
  obtain ⟨cx, cb, cml, cr, cown, cw, clk, cnm, cex, cK, cSF, cf, clo, cfi, cfj⟩ := id C
  have had := ab_R_tail hR hex htl hlt
  refine va_newaK (atype := .int) cx cb (cw _ (ab_at_mem hlk)) rfl hd rfl hx hN (show N * 4 ≤ 536870912 by omega) (by omega) (by omega) rfl fun H1 cA e1 z1 o1 hAr hNm => ?_
  have hcA : cA = E.cI := by
    have h9 : s.vm.findClass "[I" = some cA := hNm
    exact Option.some.inj (h9.symm.trans cfi)
  subst hcA
  have hva : va_at E.D vwCl (H.size, ab_cell E (.inl (.inl (N, fun _ => 0)))) H1 := e1
  have hgo := k p e R s m args below meth c H1 locs (cells + 1) (slots + N) ls mcT msT C (ab_R_push hR hex hva z1 o1).1 (ab_S_push hS z1 o1) hl (by omega) (by omega) b3 b4
  rw [← had]
  exact hgo
def ab_thr (ic : Nat) (cls : String) : List Cond := vx_atS "LeafCradles" ic cls ["java/lang/RuntimeException", "java/lang/Exception"]
def ab_thrOk (ic : Nat) (cls : String) : Bool := (ab_thr ic cls).all (fun w => if goodWord w then decide (w ∈ lw_tbl) else (decide (w = .castable cls cls) || ab_decls.any (fun q => decide (w = .declares q)))) && (ab_thr ic cls).all vx_ot && Bundle.fit cls && vx_ot (.initialized cls) && decide (cls ∈ ab_exs)
theorem ab_thrOk_143 : ab_thrOk 143 "java/lang/IllegalArgumentException" = true := by decide +kernel
theorem ab_thrOk_258 : ab_thrOk 258 "java/lang/IndexOutOfBoundsException" = true := by decide +kernel
theorem ab_thrOk_42 : ab_thrOk 42 "java/lang/IllegalStateException" = true := by decide +kernel
theorem AR.throwS {ic ik is9 i8 i9 : Nat} {cls text : String} (hex : E.ex = false) (hown : M.own = "LeafCradles") (hh : M.hh = []) (hok : ab_thrOk ic cls = true) (hlk : ab_ats [i8, i9] [.classLink "LeafCradles" ik cls, .initialized cls] = true) (hg : vx_ot (.classLink "LeafCradles" ik cls) = true) (hstr : ("LeafCradles", is9, text) ∈ ab_strs)
    (d0 : decode M.bytes pc = .ok (.new ik, 3)) (d3 : decode M.bytes (pc + 3) = .ok (.dup, 1)) (d4 : decode M.bytes (pc + 4) = .ok (.ldc is9, 2)) (d6 : decode M.bytes (pc + 6) = .ok (.invokespecial ic, 3)) (d9 : decode M.bytes (pc + 9) = .ok (.athrow, 1)) (hcat : ab_cat st = true) : AR E M d pc L st h (.inr cls) h 1 6 := by
  intro p e R s m args below meth c H locs cells slots ls mcT msT C hR hS hl b1 b2 b3 b4
  obtain ⟨cx, cb, cml, cr, cown, cw, clk, cnm, cex, cK, cSF, cf, clo, cfi, cfj⟩ := id C
  simp only [ab_thrOk, Bool.and_eq_true, decide_eq_true_eq] at hok
  obtain ⟨⟨⟨⟨k1, k2⟩, k3⟩, k4⟩, k5⟩ := hok
  have hm := ab_ats_mem hlk
  obtain ⟨f1, f2, f3, f4, f5, f6, f7, f8, f9, f10⟩ := id cSF
  obtain ⟨sa, hsa⟩ := f4 _ hstr
  have hcat := ab_cat8 (E := E) hcat
  have hat : ∀ w ∈ vx_atS "LeafCradles" ic cls ["java/lang/RuntimeException", "java/lang/Exception"], w.before args s = true := by
    intro w hw
    have h1 := List.all_eq_true.mp k1 w hw
    split at h1
    · rename_i hgw
      exact cw _ (List.mem_filter.mpr ⟨of_decide_eq_true h1, hgw⟩)
    · rcases Bool.or_eq_true _ _ ▸ h1 with h1 | h1
      · rw [of_decide_eq_true h1]
        exact (f9 _ k5).word
      · obtain ⟨q, q1, q2⟩ := List.any_eq_true.mp h1
        rw [of_decide_eq_true q2]
        exact va_Nw.use rfl (f10 q q1)
  rw [hown] at cown
  refine vx_throwS cx cb f7 cown k3 (fun n hn => ?_) (cw _ (hm _ (by simp))) (cw _ (hm _ (by simp))) hsa hat (fun w hw => ?_) f2 f3 hS (hl.1.trans cml.symm) d0 d3 d4 d6 d9 (fun x hx => ?_) (by show 2 + 3 < _; omega) (by show _ + (13 * (2 + 1) + 43) ≤ _; omega) (by omega) (by omega) clk (fun t hal hz ho => ⟨rfl, ab_R.moved hal (ab_R_more hR hex hz ho), ?_⟩) hS.2.2 (by omega) (by omega)
  · simp at hn
    rcases hn with rfl | rfl <;> decide
  · rcases List.mem_cons.mp hw with e9 | hw
    · rw [e9]; exact hg
    · rcases List.mem_cons.mp hw with e9 | hw
      · rw [e9]; exact k4
      · exact List.all_eq_true.mp k2 w hw
  · rw [cex, hh] at hx
    cases hx
  · exact ⟨Nat.le_trans hS.1 hz, fun q h1 h2 => (ho q (Nat.lt_of_lt_of_le h1 hS.1)).trans (hS.2.1 q h1 h2)⟩
theorem AR.throwSW {ic ik is9 i8 i9 : Nat} {cls text : String} (hex : E.ex = false) (hown : M.own = "LeafCradles") (hh : M.hh = []) (hok : ab_thrOk ic cls = true) (hlk : ab_ats [i8, i9] [.classLink "LeafCradles" ik cls, .initialized cls] = true) (hg : vx_ot (.classLink "LeafCradles" ik cls) = true) (hstr : ("LeafCradles", is9, text) ∈ ab_strs)
    (d0 : decode M.bytes pc = .ok (.new ik, 3)) (d3 : decode M.bytes (pc + 3) = .ok (.dup, 1)) (d4 : decode M.bytes (pc + 4) = .ok (.ldc_w is9, 3)) (d6 : decode M.bytes (pc + 7) = .ok (.invokespecial ic, 3)) (d9 : decode M.bytes (pc + 10) = .ok (.athrow, 1)) (hcat : ab_cat st = true) : AR E M d pc L st h (.inr cls) h 1 6 := by
  intro p e R s m args below meth c H locs cells slots ls mcT msT C hR hS hl b1 b2 b3 b4
  obtain ⟨cx, cb, cml, cr, cown, cw, clk, cnm, cex, cK, cSF, cf, clo, cfi, cfj⟩ := id C
  simp only [ab_thrOk, Bool.and_eq_true, decide_eq_true_eq] at hok
  obtain ⟨⟨⟨⟨k1, k2⟩, k3⟩, k4⟩, k5⟩ := hok
  have hm := ab_ats_mem hlk
  obtain ⟨f1, f2, f3, f4, f5, f6, f7, f8, f9, f10⟩ := id cSF
  obtain ⟨sa, hsa⟩ := f4 _ hstr
  have hcat := ab_cat8 (E := E) hcat
  have hat : ∀ w ∈ vx_atS "LeafCradles" ic cls ["java/lang/RuntimeException", "java/lang/Exception"], w.before args s = true := by
    intro w hw
    have h1 := List.all_eq_true.mp k1 w hw
    split at h1
    · rename_i hgw
      exact cw _ (List.mem_filter.mpr ⟨of_decide_eq_true h1, hgw⟩)
    · rcases Bool.or_eq_true _ _ ▸ h1 with h1 | h1
      · rw [of_decide_eq_true h1]
        exact (f9 _ k5).word
      · obtain ⟨q, q1, q2⟩ := List.any_eq_true.mp h1
        rw [of_decide_eq_true q2]
        exact va_Nw.use rfl (f10 q q1)
  rw [hown] at cown
  refine vx_throwSW cx cb f7 cown k3 (fun n hn => ?_) (cw _ (hm _ (by simp))) (cw _ (hm _ (by simp))) hsa hat (fun w hw => ?_) f2 f3 hS (hl.1.trans cml.symm) d0 d3 d4 d6 d9 (fun x hx => ?_) (by show 2 + 3 < _; omega) (by show _ + (13 * (2 + 1) + 43) ≤ _; omega) (by omega) (by omega) clk (fun t hal hz ho => ⟨rfl, ab_R.moved hal (ab_R_more hR hex hz ho), ?_⟩) hS.2.2 (by omega) (by omega)
  · simp at hn
    rcases hn with rfl | rfl <;> decide
  · rcases List.mem_cons.mp hw with e9 | hw
    · rw [e9]; exact hg
    · rcases List.mem_cons.mp hw with e9 | hw
      · rw [e9]; exact k4
      · exact List.all_eq_true.mp k2 w hw
  · rw [cex, hh] at hx
    cases hx
  · exact ⟨Nat.le_trans hS.1 hz, fun q h1 h2 => (ho q (Nat.lt_of_lt_of_le h1 hS.1)).trans (hS.2.1 q h1 h2)⟩
end NEW
