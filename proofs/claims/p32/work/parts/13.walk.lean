theorem nI_p1 (n : Nat) : nI (n + 1) - nI 1 = nI n := nI_pred n
theorem i_m1 (x : Int32) : x + (-1) = x - nI 1 := by rw [Int32.sub_eq_add_neg]; rfl
/-! rules in the form that the walks use -/
section WK
variable {E : AE} {M Mc : AM} {d pc : Nat} {L : AL} {st rest : List Value} {h h1 : AH} {o : AR0} {h' : AH} {mc ms mc1 ms1 : Nat} {idx : Nat} {is : List Nat} {av : List Value} {En : String}
theorem AR.run {xs : List AI} (hx : ab_oks M xs = true) (pc' : Nat) (L' : AL) (st' : List Value) (h1 : AH) (Ps : List Prop) (hs : ab_run xs pc L st h = some (Ps, (pc', L', st'), h1)) (hp : ab_all Ps) (k : AR E M d pc' L' st' h1 o h' mc ms) : AR E M d pc L st h o h' mc ms := ab_run_ok k hx hs hp
theorem AR.cast {L' : AL} {st' : List Value} {h1 : AH} (hL : L = L') (hst : st = st') (hh : h = h1) (k : AR E M d pc L' st' h1 o h' mc ms) : AR E M d pc L st h o h' mc ms := by subst hL; subst hst; subst hh; exact k
def ab_lsub : AL → AL → Prop
  | [], _ => True
  | none :: r, _ :: s => ab_lsub r s
  | some v :: r, w :: s => w = some v ∧ ab_lsub r s
  | _ :: _, [] => False
theorem ab_lsub_get : ∀ {L' L : AL}, ab_lsub L' L → ∀ (i : Nat) (v : Value), L'[i]? = some (some v) → L[i]? = some (some v)
  | [], _, _, i, v, h => by simp at h
  | none :: r, _ :: s, hs, i, v, h => by
    cases i with
    | zero => simp at h
    | succ i => exact ab_lsub_get (L' := r) (L := s) hs i v h
  | some w :: r, x :: s, hs, i, v, h => by
    cases i with
    | zero => simp at h; subst h; exact congrArg some hs.1
    | succ i => exact ab_lsub_get (L' := r) (L := s) hs.2 i v h
  | _ :: _, [], hs, i, v, h => by simp [ab_lsub] at hs
/-- some locals are forgotten -/
theorem AR.drop {L' : AL} (hL : ab_lsub L' L) (k : AR E M d pc L' st h o h' mc ms) : AR E M d pc L st h o h' mc ms := by
  intro p e R s m args below meth c H locs cells slots ls mcT msT C hR hS hl b1 b2 b3 b4
  exact k p e R s m args below meth c H locs cells slots ls mcT msT C hR hS (ab_has_of hl fun q hq => by
    obtain ⟨v, h1, h2⟩ := ab_lvs_mem.mp hq
    exact ab_lvs_mem.mpr ⟨v, ab_lsub_get hL _ _ h1, h2⟩) b1 b2 b3 b4
theorem AR.end' {o1 : AR0} {h1 : AH} (ho : o1 = o) (hh : h1 = h') (k : AR E M d pc L st h o1 h1 mc ms) : AR E M d pc L st h o h' mc ms := by subst ho; subst hh; exact k
theorem AR.room {mc1 ms1 : Nat} (h1 : mc1 ≤ mc) (h2 : ms1 ≤ ms) (k : AR E M d pc L st h o h' mc1 ms1) : AR E M d pc L st h o h' mc ms := by
  intro p e R s m args below meth c H locs cells slots ls mcT msT C hR hS hl b1 b2 b3 b4
  exact k p e R s m args below meth c H locs cells slots ls mcT msT C hR hS hl (by omega) (by omega) b3 b4
theorem AR.top {x y : Int32} (hxy : x = y) (k : AR E M d pc L (.int y :: st) h o h' mc ms) : AR E M d pc L (.int x :: st) h o h' mc ms := by subst hxy; exact k
theorem AR.ald {n x e q : Nat} {f : Nat → Int32} {i : Int32} (hx : ab_ok M (pc, .iaload, 1, n, n, n, .null) = true) (hi : i = nI e) (hg : ab_get h q = some (.inl (.inl (x, f)))) (he : e < x) (hm : x < 2147483648) (k : AR E M d (pc + 1) L (.int (f e) :: st) h o h' mc ms) : AR E M d pc L (.int i :: .ref q :: st) h o h' mc ms := by
  subst hi
  have e1 : (nI e).toNatClampNeg = e := nI_clamp (by omega)
  refine ab_step_ok hx (Ps := [vp_in (nI e) x]) (pc' := pc + 1) (L' := L) (st' := .int (f e) :: st) (h1 := h) ?_ (vp_in_nI he (by omega)) k
  simp only [ab_step, ab_ald, hg, e1]
theorem AR.ast {n x e q : Nat} {f : Nat → Int32} {i v : Int32} (hx : ab_ok M (pc, .iastore, 1, n, n, n, .null) = true) (hi : i = nI e) (hg : ab_get h q = some (.inl (.inl (x, f)))) (hq : Nat.beq (q / 4096) 0 = false) (he : e < x) (hm : x < 2147483648) (hh : ab_set h q (.inl (.inl (x, upd f e v))) = h1) (k : AR E M d (pc + 1) L st h1 o h' mc ms) : AR E M d pc L (.int v :: .int i :: .ref q :: st) h o h' mc ms := by
  subst hi
  subst hh
  have e1 : (nI e).toNatClampNeg = e := nI_clamp (by omega)
  refine ab_step_ok hx (Ps := [vp_in (nI e) x]) (pc' := pc + 1) (L' := L) (st' := st) (h1 := ab_set h q (.inl (.inl (x, upd f e v)))) ?_ (vp_in_nI he (by omega)) k
  simp only [ab_step, ab_ast, hg, hq, e1]
theorem AR.eq2N {off : Int} {tgt : Nat} {x y : Int32} {a b : Nat} (hd : decode M.bytes pc = .ok (.if_icmp .eq off, 3)) (ht : (pc : Int) + off = (tgt : Int)) (hx : x = nI a) (hy : y = nI b) (ha : a < 2147483648) (hb : b < 2147483648) (kt : a = b → AR E M d tgt L st h o h' mc ms) (kf : ¬ a = b → AR E M d (pc + 3) L st h o h' mc ms) : AR E M d pc L (.int y :: .int x :: st) h o h' mc ms := by
  subst hx
  subst hy
  exact AR.eq2 hd ht (fun z => kt ((nI_eq ha hb).mp z)) (fun z => kf (fun q => z ((nI_eq ha hb).mpr q)))
theorem AR.eqN {off : Int} {tgt : Nat} {x : Int32} {a : Nat} (hd : decode M.bytes pc = .ok (.ifCond .eq off, 3)) (ht : (pc : Int) + off = (tgt : Int)) (hx : x = nI a) (ha : a < 2147483648) (kt : a = 0 → AR E M d tgt L st h o h' mc ms) (kf : ¬ a = 0 → AR E M d (pc + 3) L st h o h' mc ms) : AR E M d pc L (.int x :: st) h o h' mc ms := by
  subst hx
  exact AR.eq hd ht (fun z => kt ((nI_eq ha (by decide)).mp z)) (fun z => kf (fun q => z ((nI_eq (b := 0) ha (by decide)).mpr q)))
theorem AR.ne2N {off : Int} {tgt : Nat} {x y : Int32} {a b : Nat} (hd : decode M.bytes pc = .ok (.if_icmp .ne off, 3)) (ht : (pc : Int) + off = (tgt : Int)) (hx : x = nI a) (hy : y = nI b) (ha : a < 2147483648) (hb : b < 2147483648) (kt : ¬ a = b → AR E M d tgt L st h o h' mc ms) (kf : a = b → AR E M d (pc + 3) L st h o h' mc ms) : AR E M d pc L (.int y :: .int x :: st) h o h' mc ms := by
  subst hx
  subst hy
  exact AR.ne2 hd ht (fun z => kt (fun q => z ((nI_eq ha hb).mpr q))) (fun z => kf ((nI_eq ha hb).mp z))
theorem AR.neN {off : Int} {tgt : Nat} {x : Int32} {a : Nat} (hd : decode M.bytes pc = .ok (.ifCond .ne off, 3)) (ht : (pc : Int) + off = (tgt : Int)) (hx : x = nI a) (ha : a < 2147483648) (kt : ¬ a = 0 → AR E M d tgt L st h o h' mc ms) (kf : a = 0 → AR E M d (pc + 3) L st h o h' mc ms) : AR E M d pc L (.int x :: st) h o h' mc ms := by
  subst hx
  exact AR.ne hd ht (fun z => kt (fun q => z ((nI_eq (b := 0) ha (by decide)).mpr q))) (fun z => kf ((nI_eq ha (by decide)).mp z))
theorem AR.lt2N {off : Int} {tgt : Nat} {x y : Int32} {a b : Nat} (hd : decode M.bytes pc = .ok (.if_icmp .lt off, 3)) (ht : (pc : Int) + off = (tgt : Int)) (hx : x = nI a) (hy : y = nI b) (ha : a < 2147483648) (hb : b < 2147483648) (kt : a < b → AR E M d tgt L st h o h' mc ms) (kf : b ≤ a → AR E M d (pc + 3) L st h o h' mc ms) : AR E M d pc L (.int y :: .int x :: st) h o h' mc ms := by
  subst hx
  subst hy
  exact AR.lt2 hd ht (fun z => kt ((nI_ltI ha hb).mp z)) (fun z => kf (by have := mt (nI_ltI ha hb).mpr z; omega))
theorem AR.ltN {off : Int} {tgt : Nat} {x : Int32} {a : Nat} (hd : decode M.bytes pc = .ok (.ifCond .lt off, 3)) (ht : (pc : Int) + off = (tgt : Int)) (hx : x = nI a) (ha : a < 2147483648) (kt : False → AR E M d tgt L st h o h' mc ms) (kf : True → AR E M d (pc + 3) L st h o h' mc ms) : AR E M d pc L (.int x :: st) h o h' mc ms := by
  subst hx
  exact AR.lt hd ht (fun z => kt (by have := (nI_ltI (b := 0) ha (by decide)).mp z; first | trivial | omega)) (fun z => kf (by have := mt (nI_ltI (b := 0) ha (by decide)).mpr z; first | trivial | omega))
theorem AR.ge2N {off : Int} {tgt : Nat} {x y : Int32} {a b : Nat} (hd : decode M.bytes pc = .ok (.if_icmp .ge off, 3)) (ht : (pc : Int) + off = (tgt : Int)) (hx : x = nI a) (hy : y = nI b) (ha : a < 2147483648) (hb : b < 2147483648) (kt : b ≤ a → AR E M d tgt L st h o h' mc ms) (kf : a < b → AR E M d (pc + 3) L st h o h' mc ms) : AR E M d pc L (.int y :: .int x :: st) h o h' mc ms := by
  subst hx
  subst hy
  exact AR.ge2 hd ht (fun z => kt ((nI_leI hb ha).mp z)) (fun z => kf (by have := mt (nI_leI hb ha).mpr z; omega))
theorem AR.geN {off : Int} {tgt : Nat} {x : Int32} {a : Nat} (hd : decode M.bytes pc = .ok (.ifCond .ge off, 3)) (ht : (pc : Int) + off = (tgt : Int)) (hx : x = nI a) (ha : a < 2147483648) (kt : True → AR E M d tgt L st h o h' mc ms) (kf : False → AR E M d (pc + 3) L st h o h' mc ms) : AR E M d pc L (.int x :: st) h o h' mc ms := by
  subst hx
  exact AR.ge hd ht (fun z => kt (by have := (nI_leI (a := 0) (by decide) ha).mp z; first | trivial | omega)) (fun z => kf (by have := mt (nI_leI (a := 0) (by decide) ha).mpr z; first | trivial | omega))
theorem AR.gt2N {off : Int} {tgt : Nat} {x y : Int32} {a b : Nat} (hd : decode M.bytes pc = .ok (.if_icmp .gt off, 3)) (ht : (pc : Int) + off = (tgt : Int)) (hx : x = nI a) (hy : y = nI b) (ha : a < 2147483648) (hb : b < 2147483648) (kt : b < a → AR E M d tgt L st h o h' mc ms) (kf : a ≤ b → AR E M d (pc + 3) L st h o h' mc ms) : AR E M d pc L (.int y :: .int x :: st) h o h' mc ms := by
  subst hx
  subst hy
  exact AR.gt2 hd ht (fun z => kt ((nI_ltI hb ha).mp z)) (fun z => kf (by have := mt (nI_ltI hb ha).mpr z; omega))
theorem AR.gtN {off : Int} {tgt : Nat} {x : Int32} {a : Nat} (hd : decode M.bytes pc = .ok (.ifCond .gt off, 3)) (ht : (pc : Int) + off = (tgt : Int)) (hx : x = nI a) (ha : a < 2147483648) (kt : 0 < a → AR E M d tgt L st h o h' mc ms) (kf : a = 0 → AR E M d (pc + 3) L st h o h' mc ms) : AR E M d pc L (.int x :: st) h o h' mc ms := by
  subst hx
  exact AR.gt hd ht (fun z => kt (by have := (nI_ltI (a := 0) (by decide) ha).mp z; first | trivial | omega)) (fun z => kf (by have := mt (nI_ltI (a := 0) (by decide) ha).mpr z; first | trivial | omega))
theorem AR.le2N {off : Int} {tgt : Nat} {x y : Int32} {a b : Nat} (hd : decode M.bytes pc = .ok (.if_icmp .le off, 3)) (ht : (pc : Int) + off = (tgt : Int)) (hx : x = nI a) (hy : y = nI b) (ha : a < 2147483648) (hb : b < 2147483648) (kt : a ≤ b → AR E M d tgt L st h o h' mc ms) (kf : b < a → AR E M d (pc + 3) L st h o h' mc ms) : AR E M d pc L (.int y :: .int x :: st) h o h' mc ms := by
  subst hx
  subst hy
  exact AR.le2 hd ht (fun z => kt ((nI_leI ha hb).mp z)) (fun z => kf (by have := mt (nI_leI ha hb).mpr z; omega))
theorem AR.leN {off : Int} {tgt : Nat} {x : Int32} {a : Nat} (hd : decode M.bytes pc = .ok (.ifCond .le off, 3)) (ht : (pc : Int) + off = (tgt : Int)) (hx : x = nI a) (ha : a < 2147483648) (kt : a = 0 → AR E M d tgt L st h o h' mc ms) (kf : 0 < a → AR E M d (pc + 3) L st h o h' mc ms) : AR E M d pc L (.int x :: st) h o h' mc ms := by
  subst hx
  exact AR.le hd ht (fun z => kt (by have := (nI_leI (b := 0) ha (by decide)).mp z; first | trivial | omega)) (fun z => kf (by have := mt (nI_leI (b := 0) ha (by decide)).mpr z; first | trivial | omega))
theorem AR.callS1 {v : Value} (av rest : List Value) (hk : ab_lkS M.own idx Mc av.length is = true) (hd : decode M.bytes pc = .ok (.invokestatic idx, 3)) (hc : CT E Mc d (av) h (.inl (some v)) h1 0 0) (hst : st = av.reverse ++ rest) (hcat : ab_cat rest = true) (k : AR E M (d + 1) (pc + 3) L (v :: rest) h1 o h' mc ms) : AR E M (d + 1) pc L st h o h' mc ms := by
  have q9 := AR.callS (rest := rest) hk hd hc hst hcat k
  rwa [Nat.zero_add, Nat.zero_add] at q9
theorem AR.callS0 (av rest : List Value) (hk : ab_lkS M.own idx Mc av.length is = true) (hd : decode M.bytes pc = .ok (.invokestatic idx, 3)) (hc : CT E Mc d (av) h (.inl (none)) h1 0 0) (hst : st = av.reverse ++ rest) (hcat : ab_cat rest = true) (k : AR E M (d + 1) (pc + 3) L (rest) h1 o h' mc ms) : AR E M (d + 1) pc L st h o h' mc ms := by
  have q9 := AR.callS (rest := rest) hk hd hc hst hcat k
  rwa [Nat.zero_add, Nat.zero_add] at q9
theorem AR.callSx (av rest : List Value) (hk : ab_lkS M.own idx Mc av.length is = true) (hd : decode M.bytes pc = .ok (.invokestatic idx, 3)) (hc : CT E Mc d (av) h (.inr En) h1 mc1 ms1) (hst : st = av.reverse ++ rest) (hcat : ab_cat rest = true) (hh : M.hh = []) : AR E M (d + 1) pc L st h (.inr En) h1 mc1 ms1 := AR.callSX (mc := 0) (ms := 0) (rest := rest) hk hd hc hst hcat (ARX.out hh)
theorem AR.callV1 {v : Value} (q : Nat) {ci : Nat} {fs : List Value} (av rest : List Value) (hk : ab_lkV M.own idx Mc av.length is = true) (hd : decode M.bytes pc = .ok (.invokevirtual idx, 3)) (hg : ab_get h q = some (.inr (ci, fs))) (hci : (vwCl[ci]?).map (·.1) = some Mc.y.cls) (hc : CT E Mc d (.ref q :: av) h (.inl (some v)) h1 0 0) (hst : st = av.reverse ++ .ref q :: rest) (hcat : ab_cat rest = true) (k : AR E M (d + 1) (pc + 3) L (v :: rest) h1 o h' mc ms) : AR E M (d + 1) pc L st h o h' mc ms := by
  have q9 := AR.callV (rest := rest) hk hd hg hci hc hst hcat k
  rwa [Nat.zero_add, Nat.zero_add] at q9
theorem AR.callV0 (q : Nat) {ci : Nat} {fs : List Value} (av rest : List Value) (hk : ab_lkV M.own idx Mc av.length is = true) (hd : decode M.bytes pc = .ok (.invokevirtual idx, 3)) (hg : ab_get h q = some (.inr (ci, fs))) (hci : (vwCl[ci]?).map (·.1) = some Mc.y.cls) (hc : CT E Mc d (.ref q :: av) h (.inl (none)) h1 0 0) (hst : st = av.reverse ++ .ref q :: rest) (hcat : ab_cat rest = true) (k : AR E M (d + 1) (pc + 3) L (rest) h1 o h' mc ms) : AR E M (d + 1) pc L st h o h' mc ms := by
  have q9 := AR.callV (rest := rest) hk hd hg hci hc hst hcat k
  rwa [Nat.zero_add, Nat.zero_add] at q9
theorem AR.callVx (q : Nat) {ci : Nat} {fs : List Value} (av rest : List Value) (hk : ab_lkV M.own idx Mc av.length is = true) (hd : decode M.bytes pc = .ok (.invokevirtual idx, 3)) (hg : ab_get h q = some (.inr (ci, fs))) (hci : (vwCl[ci]?).map (·.1) = some Mc.y.cls) (hc : CT E Mc d (.ref q :: av) h (.inr En) h1 mc1 ms1) (hst : st = av.reverse ++ .ref q :: rest) (hcat : ab_cat rest = true) (hh : M.hh = []) : AR E M (d + 1) pc L st h (.inr En) h1 mc1 ms1 := AR.callVX (mc := 0) (ms := 0) (rest := rest) hk hd hg hci hc hst hcat (ARX.out hh)
theorem AR.retI {v w : Int32} (hd : decode M.bytes pc = .ok (.ireturn, 1)) (hr : M.ret = some .int) (hv : v = w) (hh : h = h') : AR E M d pc L [.int v] h (.inl (some (.int w))) h' mc ms := by subst hv; subst hh; exact AR.reti hd hr
theorem AR.retZ {v w : Int32} (hd : decode M.bytes pc = .ok (.ireturn, 1)) (hr : M.ret = some .boolean) (hz : v = 0 ∨ v = 1) (hv : v = w) (hh : h = h') : AR E M d pc L [.int v] h (.inl (some (.int w))) h' mc ms := by subst hv; subst hh; exact AR.retz hd hr hz
theorem AR.retL {v w : Int64} (hd : decode M.bytes pc = .ok (.lreturn, 1)) (hr : M.ret = some .long) (hv : v = w) (hh : h = h') : AR E M d pc L [.long v] h (.inl (some (.long w))) h' mc ms := by subst hv; subst hh; exact AR.retl hd hr
theorem AR.retD {v w : UInt64} (hd : decode M.bytes pc = .ok (.dreturn, 1)) (hr : M.ret = some .double) (hv : v = w) (hh : h = h') : AR E M d pc L [.double v] h (.inl (some (.double w))) h' mc ms := by subst hv; subst hh; exact AR.retd hd hr
theorem AR.retV (hd : decode M.bytes pc = .ok (.return_, 1)) (hr : M.ret = none) (hh : h = h') : AR E M d pc L [] h (.inl none) h' mc ms := by subst hh; exact AR.retv hd hr
/-- a counted loop at pc -/
theorem AR.loopN (n : Nat) (Lf : Nat → AL) (hf : Nat → AH) (I : Nat → Prop) (hs : ∀ j, j < n → I j → (I (j + 1) → AR E M d pc (Lf (j + 1)) st (hf (j + 1)) o h' mc ms) → AR E M d pc (Lf j) st (hf j) o h' mc ms) (he : I n → AR E M d pc (Lf n) st (hf n) o h' mc ms) : ∀ (j0 : Nat), j0 ≤ n → I j0 → AR E M d pc (Lf j0) st (hf j0) o h' mc ms := by
  intro j0 hj hI
  obtain ⟨k, hk⟩ : ∃ k, n = j0 + k := ⟨n - j0, by omega⟩
  induction k generalizing j0 with
  | zero =>
    have : j0 = n := by omega
    subst this
    exact he hI
  | succ k ih => exact hs j0 (by omega) hI (fun hI2 => ih (j0 + 1) (by omega) hI2 (by omega))
/-- a loop that counts down to 0 -/
theorem AR.loopD (Lf : Nat → AL) (hf : Nat → AH) (I : Nat → Prop) (hs : ∀ j, I (j + 1) → (I j → AR E M d pc (Lf j) st (hf j) o h' mc ms) → AR E M d pc (Lf (j + 1)) st (hf (j + 1)) o h' mc ms) (he : I 0 → AR E M d pc (Lf 0) st (hf 0) o h' mc ms) : ∀ (j0 : Nat), I j0 → AR E M d pc (Lf j0) st (hf j0) o h' mc ms := by
  intro j0
  induction j0 with
  | zero => exact he
  | succ j ih => exact fun hI => hs j hI (fun hI2 => ih hI2)
end WK
