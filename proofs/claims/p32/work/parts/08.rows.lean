section AM
variable {p : Program} {l : Launch} {e : Env} {R : Room} {s : State} {m : MethodId} {args : Array Value} {below : List Frame} {meth : Method} {c : Code} {H : Heap} {locs : List Loc} {cells slots : Nat} {Q : State → Prop}
variable {cc : ByteArray} {pc : Nat} {ls : Array Slot} {rest : List Value} {D : va_G} {cl : List vw_C} {A : Nat → Prop} {a : Nat} {tys : List (ClassId × FieldType)} {H0 : Heap}
theorem ab_P1 {q : Nat × va_E} (h : va_at D cl q H) : va_P D cl [q] H := by
  intro k x hx
  cases k with
  | zero => cases hx; exact h
  | succ k => simp at hx
theorem am_put (hexec : p.tables.exec = Jvm.exec) (hb : c.code = cc) {own C : String} {T : u_T} {N ci index : Nat} {Ts : List Cond} (hts : ∀ w ∈ Ts, w.before args s = true) (hin : ∀ w ∈ u_ws C T N, w ∈ Ts) (ty0 : Nat → FieldType) (hty : ∀ k, k < N → parseFieldDescriptor (T k).2.2.1 = some (ty0 k)) (hnm : ∀ a, a < N → ∀ b, b < N → a ≠ b → (T a).2.1 ≠ (T b).2.1) (hown : s.vm.findClass own = some m.cls) (hK : va_K D cl tys s) (hS0 : va_S A H0 H locs) {fs : List Value} (hA : A a) (he : va_at D cl (a, .inr (ci, fs)) H) (hc : cl[ci]? = some (C, T, N)) (k : Nat) (hk : k < N) (hC : (T k).1 = C) (hlink : (Cond.fieldLink own index C (T k).2.1 (T k).2.2.1).before args s = true) (hfin : (T k).2.2.2 = true → meth.name = "<init>" ∧ C = own) {v : Value} (hn : narrow (ty0 k) v = v) (hfit : fits (ty0 k) v = true) (hl : k < fs.length)
    (hdg : decode cc pc = .ok (.putfield index, 3)) (kk : ∀ (H1 : Heap) (locs1 : List Loc), va_at D cl (a, .inr (ci, fs.set k v)) H1 → H1.size = H.size → (∀ q, q ≠ a → H1[q]? = H[q]?) → va_S A H0 H1 locs1 → W p l e R s m args below meth c H1 locs1 cells slots Q (F0 m (pc + 3) ls rest)) : W p l e R s m args below meth c H locs cells slots Q (F0 m pc ls (v :: .ref a :: rest)) := by
  have hap := va_apart (own := own) hts hin ty0 hty hnm hK hc
  obtain ⟨r, h1, cell, q1, q2, q3, q4⟩ := he
  have hr : r = (C, T, N) := Option.some.inj (h1.symm.trans hc)
  subst hr
  obtain ⟨hS, hfc, kC, hkC, hkind⟩ := hK.1 ci _ hc
  obtain ⟨cf, kf, fi, f, hi, hsl⟩ := hS k hk
  have hi' : s.fieldFound? C (T k).2.1 (T k).2.2.1 = some (cf, kf, fi, f) := by rw [← hC]; exact hi
  have hlay := hts _ (hin _ (u_in_lay hk))
  have hst := (u_facts hfc hkC (u_lays hts hin hk) hi).1
  cases hf : (T k).2.2.2 with
  | false =>
    unfold u_lay at hlay
    rw [if_neg (by rw [hf]; decide)] at hlay
    have h6 := u_store hfc hkC hkind hlay hi (hty k hk) hn hfit
    refine W.putK hexec hb (f := f) ⟨hown, hlink, ⟨_, _, _, hi'⟩, hst⟩ (by rw [q2]; exact h6) q1 q3 (by rw [hsl]; exact k2_hasslot (q4 k hk)) rfl rfl hdg fun H' e1 e2 e3 => ?_
    rw [hsl] at e1 ⊢
    exact kk H' _ ⟨_, hc, t_OB.to (V := updV (vp_V fs) k v) ⟨_, e1, q2, q3, t_set q4 hap hk v⟩ (fun j _ => vp_updV_set hl v j)⟩ e2 e3 (hS0.put e2 e3 hA)
  | true =>
    obtain ⟨hin2, hdecl⟩ := hfin hf
    unfold u_lay at hlay
    rw [if_pos hf] at hlay
    have hcf : m.cls = cf := by
      obtain ⟨_, _, c', _, _, _, -, -, hf', -, -, -, hown2, -⟩ := Cond.laysFinal_spec hlay
      have e1 : c' = cf := by have := hi.symm.trans hf'; simp at this; exact this.1.symm
      rw [hC, hdecl] at hown2
      rw [← e1]; exact Option.some.inj (hown.symm.trans hown2)
    have h6 := u_fits hfc hkC hkind (Or.inr hlay) hi (hty k hk) hn hfit
    refine W.putFinK hexec hb hown hlink hi' hst hcf hin2 (by rw [q2]; exact h6) q1 q3 (by rw [hsl]; exact k2_hasslot (q4 k hk)) rfl rfl hdg fun H' e1 e2 e3 => ?_
    rw [hsl] at e1 ⊢
    exact kk H' _ ⟨_, hc, t_OB.to (V := updV (vp_V fs) k v) ⟨_, e1, q2, q3, t_set q4 hap hk v⟩ (fun j _ => vp_updV_set hl v j)⟩ e2 e3 (hS0.put e2 e3 hA)
theorem am_iast (hexec : p.tables.exec = Jvm.exec) (hb : c.code = cc) (hS : va_S A H0 H locs) {cA : ClassId} {n : Nat} {f : Nat → Int32} (hAr : ArrOfT s cA .int) (hA : A a) (ha : va_at D cl (a, .inl (cA, n, .inl f)) H) {i : Int32} {x : Int32} (hin : vp_in i n) (hdg : decode cc pc = .ok (.iastore, 1))
    (kk : ∀ (H1 : Heap) (locs1 : List Loc), va_at D cl (a, .inl (cA, n, .inl (upd f i.toNatClampNeg x))) H1 → H1.size = H.size → (∀ q, q ≠ a → H1[q]? = H[q]?) → va_S A H0 H1 locs1 → W p l e R s m args below meth c H1 locs1 cells slots Q (F0 m (pc + 1) ls rest)) : W p l e R s m args below meth c H locs cells slots Q (F0 m pc ls (.int x :: .int i :: .ref a :: rest)) := by
  refine W.iast hexec hb ha (hAr n (fun j => .int (f j))) (fun q => by cases q) (by show ¬ (i < 0 ∨ (arrV _ _ _).slots.size ≤ _); rw [arrV_size]; exact hin) rfl rfl hdg fun H1 e z oq => ?_
  refine kk H1 _ ?_ z oq (hS.put z oq hA)
  have e' : H1[a]? = some ((vp_cell cA (n, .inl f)).setSlot i.toNatClampNeg (.int x)) := e
  show H1[a]? = some (vp_cell cA (n, .inl (upd f i.toNatClampNeg x)))
  rw [e', vp_cell_i, vp_cell_i, arrV_store]
  congr 2
  funext q
  by_cases hq : q = i.toNatClampNeg
  · subst hq
    simp [updV, upd]
  · simp [updV, upd, hq]
theorem am_last (hexec : p.tables.exec = Jvm.exec) (hb : c.code = cc) (hS : va_S A H0 H locs) {cA : ClassId} {n : Nat} {f : Nat → Int64} (hAr : ArrOfT s cA .long) (hA : A a) (ha : va_at D cl (a, .inl (cA, n, .inr (.inl f))) H) {i : Int32} {x : Int64} (hin : vp_in i n) (hdg : decode cc pc = .ok (.lastore, 1))
    (kk : ∀ (H1 : Heap) (locs1 : List Loc), va_at D cl (a, .inl (cA, n, .inr (.inl (vp_updL f i.toNatClampNeg x)))) H1 → H1.size = H.size → (∀ q, q ≠ a → H1[q]? = H[q]?) → va_S A H0 H1 locs1 → W p l e R s m args below meth c H1 locs1 cells slots Q (F0 m (pc + 1) ls rest)) : W p l e R s m args below meth c H locs cells slots Q (F0 m pc ls (.long x :: .int i :: .ref a :: rest)) := by
  refine W.last hexec hb ha (hAr n (fun j => .long (f j))) (fun q => by cases q) (by show ¬ (i < 0 ∨ (arrV _ _ _).slots.size ≤ _); rw [arrV_size]; exact hin) rfl rfl hdg fun H1 e z oq => ?_
  refine kk H1 _ ?_ z oq (hS.put z oq hA)
  have e' : H1[a]? = some ((vp_cell cA (n, .inr (.inl f))).setSlot i.toNatClampNeg (.long x)) := e
  show H1[a]? = some (vp_cell cA (n, .inr (.inl (vp_updL f i.toNatClampNeg x))))
  rw [e', vp_cell_l, vp_cell_l, arrV_store]
  congr 2
  funext q
  by_cases hq : q = i.toNatClampNeg
  · subst hq
    simp [updV, vp_updL]
  · simp [updV, vp_updL, hq]
theorem am_copyi (hexec : p.tables.exec = Jvm.exec) (hb : c.code = cc) (hml : c.maxLocals = ls.size) {own : String} {index : Nat} (hown : s.vm.findClass own = some m.cls) (hlink : (Cond.methodLink own index arraycopyName).before args s = true) (hnat : (Cond.native arraycopyName).before args s = true) (hstat : (Cond.static arraycopyName).before args s = true) (hini : (Cond.initialized "java/lang/System").before args s = true)
    (hS : va_S A H0 H locs) {a0 : Nat} {c0 : ClassId} {n0 n1 : Nat} {f g : Nat → Int32} (hAr : ArrOfT s c0 .int) (hA : A a) (ha0 : va_at D cl (a0, .inl (c0, n0, .inl f)) H) (ha1 : va_at D cl (a, .inl (c0, n1, .inl g)) H)
    {sp dp n : Int32} (h1 : ¬ sp < 0) (h2 : ¬ dp < 0) (h3 : ¬ n < 0) (h4 : sp.toNatClampNeg + n.toNatClampNeg ≤ n0) (h5 : dp.toNatClampNeg + n.toNatClampNeg ≤ n1)
    (hframes : 1 ≤ R.frames) (hlocals : (rest.map fun v => v.category).sum + (nativeFrameWords "java/lang/System" "arraycopy" 5 + 11) ≤ R.locals) (hdg : decode cc pc = .ok (.invokestatic index, 3))
    (kk : ∀ (H1 : Heap) (locs1 : List Loc), va_at D cl (a, .inl (c0, n1, .inl (va_cpy f g sp.toNatClampNeg dp.toNatClampNeg n.toNatClampNeg))) H1 → H1.size = H.size → (∀ q, q ≠ a → H1[q]? = H[q]?) → va_S A H0 H1 locs1 → W p l e R s m args below meth c H1 locs1 cells slots Q (F0 m (pc + 3) ls rest)) : W p l e R s m args below meth c H locs cells slots Q (F0 m pc ls (.int n :: .int dp :: .ref a :: .int sp :: .ref a0 :: rest)) := by
  have nn : ∀ z : Int32, ¬ z < 0 → z.toInt = (z.toNatClampNeg : Int) := by
    intro z hz
    have hz0 : (0 : Int) ≤ z.toInt := by
      have := Int32.not_lt.mp hz
      simpa using Int32.le_iff_toInt_le.mp this
    show z.toInt = ((z.toInt.toNat : Nat) : Int)
    omega
  intro T hT X
  have hc0 : H[a0]? = some (vp_cell c0 (n0, .inl f)) := ha0
  have hc1 : H[a]? = some (vp_cell c0 (n1, .inl g)) := ha1
  obtain ⟨-, k0, hk0, cm0, hkk0⟩ := hAr n0 (fun j => .int (f j))
  obtain ⟨-, k1, hk1, cm1, hkk1⟩ := hAr n1 (fun j => .int (g j))
  obtain ⟨vm', X', step⟩ := X.arraycopy hexec hown hlink hnat hstat hini (src := a0) (dst := a) (cs := vp_cell c0 (n0, .inl f)) (cd := vp_cell c0 (n1, .inl g)) (srcPos := sp) (destPos := dp) (n := n) (by rw [hT]; exact hc0) (by rw [hT]; exact hc1)
    (fun _ h => by cases h) (fun _ h => by cases h) (fun h => by cases h) (fun h => by cases h) hk0 hk1 hkk0 hkk1 (by simp [refKind]) h1 h2 h3
    (by rw [nn sp h1, nn n h3]; show ¬ _ > ((arrV c0 n0 (fun j => .int (f j))).slots.size : Int); rw [arrV_size]; omega)
    (by rw [nn dp h2, nn n h3]; show ¬ _ > ((arrV c0 n1 (fun j => .int (g j))).slots.size : Int); rw [arrV_size]; omega)
    (fun vm₁ _ i hi => by
      have e : (vp_cell c0 (n0, .inl f)).slots.getD (sp.toNatClampNeg + i) .null = .int (f (sp.toNatClampNeg + i)) := by
        show (arrV c0 n0 (fun j => .int (f j))).slots.getD _ _ = _
        rw [Array.getD_eq_getD_getElem?, arrV_read _ _ (by omega)]
        rfl
      refine ⟨?_, ?_⟩
      · rw [e]
        rfl
      · rw [e]
        exact trivial)
    (g := F0 m pc ls (.int n :: .int dp :: .ref a :: .int sp :: .ref a0 :: rest)) rfl (by rw [hml]) (rest := rest) rfl (by rw [hb]; exact hdg) hframes (by show 2 * 0 + _ + _ ≤ _; omega)
  have e1 : copied (vp_cell c0 (n0, .inl f)) (vp_cell c0 (n1, .inl g)) sp dp n = vp_cell c0 (n1, .inl (va_cpy f g sp.toNatClampNeg dp.toNatClampNeg n.toNatClampNeg)) := va_copied (fun z => .int z) c0 c0 f g h4
  rw [e1] at X' step
  have hl : a < H.size := (Array.getElem?_eq_some_iff.mp hc1).1
  have hheap : ((T.setVm vm').setCell a (vp_cell c0 (n1, .inl (va_cpy f g sp.toNatClampNeg dp.toNatClampNeg n.toNatClampNeg)))).heap = H.setIfInBounds a (vp_cell c0 (n1, .inl (va_cpy f g sp.toNatClampNeg dp.toNatClampNeg n.toNatClampNeg))) := by rw [← hT]; rfl
  have oq : ∀ q : Nat, q ≠ a → (H.setIfInBounds a (vp_cell c0 (n1, .inl (va_cpy f g sp.toNatClampNeg dp.toNatClampNeg n.toNatClampNeg))))[q]? = H[q]? := fun q hq => by simp [Array.getElem?_setIfInBounds, Ne.symm hq]
  obtain ⟨t, a1, b1⟩ := kk _ _ (show (H.setIfInBounds a _)[a]? = some _ by simp [Array.getElem?_setIfInBounds, hl]) (by simp) oq ⟨by simp; exact hS.1, fun q g1 g2 => by
      rw [oq q (fun e => g2 (by rw [e]; exact hA))]
      exact hS.2.1 q g1 g2, fun q hq => by
      rcases List.mem_append.mp hq with h | h
      · exact hS.2.2 q h
      · obtain ⟨z, -, hz⟩ := List.mem_map.mp h
        rw [← hz]
        exact hA⟩ _ hheap X'
  exact ⟨t, step t a1, b1⟩
end AM
theorem ab_isT_0 {v : Value} (h : ab_isT 0 v = true) : ∃ z, v = .int z := by cases v <;> simp [ab_isT] at h; exact ⟨_, rfl⟩
theorem ab_isT_1 {v : Value} (h : ab_isT 1 v = true) : ∃ z, v = .long z := by cases v <;> simp [ab_isT] at h; exact ⟨_, rfl⟩
theorem ab_isT_2 {v : Value} (h : ab_isT 2 v = true) : ∃ z, v = .double z := by cases v <;> simp [ab_isT] at h; exact ⟨_, rfl⟩
theorem ab_isT_3 {v : Value} (h : ab_isT 3 v = true) : ∃ z, v = .ref z := by cases v <;> simp [ab_isT] at h; exact ⟨_, rfl⟩
section INV
variable {t pc n a b : Nat} {L : AL} {st : List Value} {h : AH} {r : List Prop × (Nat × AL × List Value) × AH}
theorem ab_load_inv (hs : ab_load t pc n a L st h = some r) : ∃ v, L[a]? = some (some v) ∧ ab_isT t v = true ∧ r = ([], (pc + n, L, v :: st), h) := by
  unfold ab_load at hs
  split at hs
  · rename_i v hv
    split at hs
    · cases hs; exact ⟨v, hv, by assumption, rfl⟩
    · cases hs
  · cases hs
theorem ab_store1_inv (hs : ab_store1 t pc n a L st h = some r) : ∃ v q, st = v :: q ∧ ab_isT t v = true ∧ r = ([], (pc + n, ab_put1 L a v, q), h) := by
  unfold ab_store1 at hs
  split at hs
  · split at hs
    · cases hs; exact ⟨_, _, rfl, by assumption, rfl⟩
    · cases hs
  · cases hs
theorem ab_store2_inv (hs : ab_store2 t pc n a L st h = some r) : ∃ v q, st = v :: q ∧ ab_isT t v = true ∧ r = ([], (pc + n, ab_put2 L a v, q), h) := by
  unfold ab_store2 at hs
  split at hs
  · split at hs
    · cases hs; exact ⟨_, _, rfl, by assumption, rfl⟩
    · cases hs
  · cases hs
theorem ab_bin_inv {f : Int32 → Int32 → Int32} (hs : ab_bin f pc n L st h = some r) : ∃ x y q, st = .int y :: .int x :: q ∧ r = ([], (pc + n, L, .int (f x y) :: q), h) := by
  unfold ab_bin at hs
  split at hs
  · cases hs; exact ⟨_, _, _, rfl, rfl⟩
  · cases hs
theorem ab_binZ_inv {f : Int32 → Int32 → Int32} (hs : ab_binZ f pc n L st h = some r) : ∃ x y q, st = .int y :: .int x :: q ∧ r = ([¬ y = 0], (pc + n, L, .int (f x y) :: q), h) := by
  unfold ab_binZ at hs
  split at hs
  · cases hs; exact ⟨_, _, _, rfl, rfl⟩
  · cases hs
theorem ab_un_inv {f : Int32 → Value} (hs : ab_un f pc n L st h = some r) : ∃ x q, st = .int x :: q ∧ r = ([], (pc + n, L, f x :: q), h) := by
  unfold ab_un at hs
  split at hs
  · cases hs; exact ⟨_, _, rfl, rfl⟩
  · cases hs
theorem ab_binL_inv {f : Int64 → Int64 → Value} (hs : ab_binL f pc n L st h = some r) : ∃ x y q, st = .long y :: .long x :: q ∧ r = ([], (pc + n, L, f x y :: q), h) := by
  unfold ab_binL at hs
  split at hs
  · cases hs; exact ⟨_, _, _, rfl, rfl⟩
  · cases hs
theorem ab_binD_inv {f : UInt64 → UInt64 → UInt64} (hs : ab_binD f pc n L st h = some r) : ∃ x y q, st = .double y :: .double x :: q ∧ r = ([vf_n64 (f x y)], (pc + n, L, .double (f x y) :: q), h) := by
  unfold ab_binD at hs
  split at hs
  · cases hs; exact ⟨_, _, _, rfl, rfl⟩
  · cases hs
theorem ab_getf_inv (hs : ab_getf pc n a b L st h = some r) : ∃ q z fs w, st = .ref q :: z ∧ ab_get h q = some (.inr (a, fs)) ∧ fs[b]? = some w ∧ r = ([], (pc + n, L, w :: z), h) := by
  unfold ab_getf at hs
  split at hs
  · split at hs
    · split at hs
      · rename_i h1 h2
        cases hs
        have h1 := Nat.eq_of_beq_eq_true h1
        subst h1
        exact ⟨_, _, _, _, rfl, by assumption, h2, rfl⟩
      · cases hs
    · cases hs
  · cases hs
theorem ab_putf_inv (hs : ab_putf pc n a b L st h = some r) : ∃ w q z fs, st = w :: .ref q :: z ∧ ab_get h q = some (.inr (a, fs)) ∧ b < fs.length ∧ ab_okv (ab_ty a b) w = true ∧ r = ([], (pc + n, L, z), ab_set h q (.inr (a, fs.set b w))) := by
  unfold ab_putf at hs
  split at hs
  · split at hs
    · split at hs
      · rename_i h1 h2 h3
        cases hs
        have h1 := Nat.eq_of_beq_eq_true h1
        subst h1
        exact ⟨_, _, _, _, rfl, by assumption, by simpa using h2, h3, rfl⟩
      · cases hs
    · cases hs
  · cases hs
theorem ab_ald_inv (hs : ab_ald pc n L st h = some r) : ∃ i q z k f, st = .int i :: .ref q :: z ∧ ab_get h q = some (.inl (.inl (k, f))) ∧ r = ([vp_in i k], (pc + n, L, .int (f i.toNatClampNeg) :: z), h) := by
  unfold ab_ald at hs
  split at hs
  · split at hs
    · cases hs; exact ⟨_, _, _, _, _, rfl, by assumption, rfl⟩
    · cases hs
  · cases hs
theorem ab_lald_inv (hs : ab_lald pc n L st h = some r) : ∃ i q z k f, st = .int i :: .ref q :: z ∧ ab_get h q = some (.inl (.inr (k, f))) ∧ r = ([vp_in i k], (pc + n, L, .long (f i.toNatClampNeg) :: z), h) := by
  unfold ab_lald at hs
  split at hs
  · split at hs
    · cases hs; exact ⟨_, _, _, _, _, rfl, by assumption, rfl⟩
    · cases hs
  · cases hs
theorem ab_ne0 {q : Nat} (h : Nat.beq (q / 4096) 0 = false) : ¬ q / 4096 = 0 := by
  intro e
  rw [e] at h
  cases h
theorem ab_ast_inv (hs : ab_ast pc n L st h = some r) : ∃ x i q z k f, st = .int x :: .int i :: .ref q :: z ∧ ab_get h q = some (.inl (.inl (k, f))) ∧ ¬ q / 4096 = 0 ∧ r = ([vp_in i k], (pc + n, L, z), ab_set h q (.inl (.inl (k, upd f i.toNatClampNeg x)))) := by
  unfold ab_ast at hs
  split at hs
  · split at hs
    · rename_i h1 h2
      cases hs; exact ⟨_, _, _, _, _, _, rfl, h1, ab_ne0 h2, rfl⟩
    · cases hs
  · cases hs
theorem ab_last_inv (hs : ab_last pc n L st h = some r) : ∃ x i q z k f, st = .long x :: .int i :: .ref q :: z ∧ ab_get h q = some (.inl (.inr (k, f))) ∧ ¬ q / 4096 = 0 ∧ r = ([vp_in i k], (pc + n, L, z), ab_set h q (.inl (.inr (k, vp_updL f i.toNatClampNeg x)))) := by
  unfold ab_last at hs
  split at hs
  · split at hs
    · rename_i h1 h2
      cases hs; exact ⟨_, _, _, _, _, _, rfl, h1, ab_ne0 h2, rfl⟩
    · cases hs
  · cases hs
theorem ab_alen_inv (hs : ab_alen pc n L st h = some r) : ∃ q z k f, st = .ref q :: z ∧ ab_get h q = some (.inl (.inl (k, f))) ∧ r = ([], (pc + n, L, .int (Int32.ofNat k) :: z), h) := by
  unfold ab_alen at hs
  split at hs
  · split at hs
    · cases hs; exact ⟨_, _, _, _, rfl, by assumption, rfl⟩
    · cases hs
  · cases hs
end INV
theorem ab_okv_ok {E : AE} {ty : FieldType} {w : Value} (h : ab_okv ty w = true) : narrow ty (ab_v E w) = ab_v E w ∧ fits ty (ab_v E w) = true := by
  cases ty <;> cases w <;> simp [ab_okv] at h <;> exact ⟨rfl, rfl⟩
theorem ab_R_arr {E : AE} {h : AH} {U : State} {H : Heap} (hR : ab_R E h U H) {q k : Nat} {f : Nat → Int32} (hg : ab_get h q = some (.inl (.inl (k, f)))) (hA : ArrOfT U E.cI .int) : ∃ cell : Cell, H[ab_adr E q]? = some cell ∧ U.isArrayOf cell .int ∧ cell.vm ≠ .unknown ∧ k ≤ cell.slots.size ∧ cell.slots.size.toInt32 = Int32.ofNat k ∧ ∀ j, j < k → cell.slots[j]? = some (.int (f j)) := by
  by_cases q0 : q / 4096 = 0
  · obtain ⟨n, f', e1, e2, e3⟩ := hR.2.2.2.2 q _ q0 hg
    cases e1
    exact e3
  · have h1 := hR.2.2.2.1 q _ q0 hg
    exact ⟨_, h1, hA k (fun j => .int (f j)), (fun z => by cases z), by show _ ≤ (arrV _ _ _).slots.size; rw [arrV_size]; try exact Nat.le_refl _, by show (arrV _ _ _).slots.size.toInt32 = _; rw [arrV_size]; try rfl, fun j hj => by show (arrV _ _ _).slots[_]? = _; rw [arrV_read _ _ hj]⟩
