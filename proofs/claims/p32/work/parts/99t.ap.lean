/-! the same rules with any end -/
abbrev AQ : Type := List Frame → Array Value → State → Nat → Nat → State → Prop
def AP (E : AE) (M : AM) (d pc : Nat) (L : AL) (st : List Value) (h : AH) (Q : AQ) (mc ms : Nat) : Prop :=
  ∀ (p : Program) (e : Env) (R : Room) (s : State) (m : MethodId) (args : Array Value) (below : List Frame) (meth : Method) (c : Code) (H : Heap) (locs : List Loc) (cells slots : Nat) (ls : Array Slot) (mcT msT : Nat),
    ab_Ctx E M d p R s m args meth c → ab_R E h s H → va_S (ab_A E) s.heap H locs → lv_has ls M.maxL (ab_lvs E L) → cells + mc ≤ mcT → slots + ms ≤ msT → mcT ≤ R.cells → msT ≤ R.slots →
    W p E.l e R s m args below meth c H locs cells slots (Q below args s mcT msT) (F0 m pc ls (st.map (ab_v E)))
set_option maxRecDepth 100000 in
theorem ap_step_ok {E : AE} {M : AM} {d : Nat} {x : AI} (hx : ab_ok M x = true) {L : AL} {st : List Value} {h : AH} {Ps : List Prop} {pc' : Nat} {L' : AL} {st' : List Value} {h1 : AH} (hs : ab_step x L st h = some (Ps, (pc', L', st'), h1)) (hp : ab_all Ps) {Q : AQ} {mc ms : Nat} (k : AP E M d pc' L' st' h1 Q mc ms) : AP E M d x.1 L st h Q mc ms := by
  obtain ⟨pc, i, n, a, b, c9, v⟩ := x
  intro p e R s m args below meth c H locs cells slots ls mcT msT C hR hS hl b1 b2 b3 b4
  obtain ⟨cx, cb, cml, cr, cown, cw, clk, cnm, cex, cK, cSF, cf, clo, cfi, cfj⟩ := id C
  unfold ab_ok at hx
  rw [Bool.and_eq_true, decide_eq_true_eq] at hx
  obtain ⟨hd, hk⟩ := hx
  dsimp only at hd ⊢
  have hmL : c.maxLocals = ls.size := cml.trans hl.1.symm
  cases i with
  | iconst q =>
    simp only [ab_okI, Bool.and_eq_true, decide_eq_true_eq] at hk
    obtain ⟨hn, hv⟩ := hk
    have hn := Nat.eq_of_beq_eq_true hn
    subst hn
    subst hv
    cases hs
    exact lv_iconst cx cb hd rfl (k p e R s m args below meth c H locs cells slots ls mcT msT C hR hS hl b1 b2 b3 b4)
  | bipush q =>
    simp only [ab_okI, Bool.and_eq_true, decide_eq_true_eq] at hk
    obtain ⟨hn, hv⟩ := hk
    have hn := Nat.eq_of_beq_eq_true hn
    subst hn
    subst hv
    cases hs
    exact lv_bipush cx cb hd rfl (k p e R s m args below meth c H locs cells slots ls mcT msT C hR hS hl b1 b2 b3 b4)
  | sipush q =>
    simp only [ab_okI, Bool.and_eq_true, decide_eq_true_eq] at hk
    obtain ⟨hn, hv⟩ := hk
    have hn := Nat.eq_of_beq_eq_true hn
    subst hn
    subst hv
    cases hs
    exact lv_sipush cx cb hd rfl (k p e R s m args below meth c H locs cells slots ls mcT msT C hR hS hl b1 b2 b3 b4)
  | lconst q =>
    simp only [ab_okI, Bool.and_eq_true, decide_eq_true_eq] at hk
    obtain ⟨hn, hv⟩ := hk
    have hn := Nat.eq_of_beq_eq_true hn
    subst hn
    subst hv
    cases hs
    exact lv_lconst cx cb hd rfl (k p e R s m args below meth c H locs cells slots ls mcT msT C hR hS hl b1 b2 b3 b4)
  | dconst q =>
    simp only [ab_okI, Bool.and_eq_true] at hk
    obtain ⟨hn, hv⟩ := hk
    have hn := Nat.eq_of_beq_eq_true hn
    subst hn
    cases hs
    match q, hd, hv with
    | 0, hd, hv =>
      have hv := of_decide_eq_true hv
      subst hv
      exact lv_dconst0 cx cb hd (k p e R s m args below meth c H locs cells slots ls mcT msT C hR hS hl b1 b2 b3 b4)
    | 1, hd, hv =>
      have hv := of_decide_eq_true hv
      subst hv
      exact lv_dconst1 cx cb hd (k p e R s m args below meth c H locs cells slots ls mcT msT C hR hS hl b1 b2 b3 b4)
  | ldc q =>
    simp only [ab_okI, Bool.and_eq_true] at hk
    obtain ⟨hn, hv⟩ := hk
    have hn := Nat.eq_of_beq_eq_true hn
    subst hn
    cases hs
    cases v with
    | int z => exact lv_ldc cx cb cown (cw _ (ab_at_mem hv)) hd (k p e R s m args below meth c H locs cells slots ls mcT msT C hR hS hl b1 b2 b3 b4)
    | _ => cases hv
  | ldc2_w q =>
    simp only [ab_okI, Bool.and_eq_true] at hk
    obtain ⟨hn, hv⟩ := hk
    have hn := Nat.eq_of_beq_eq_true hn
    subst hn
    cases hs
    cases v with
    | long z => exact lv_ldc2 cx cb cown (cw _ (ab_at_mem hv)) hd (k p e R s m args below meth c H locs cells slots ls mcT msT C hR hS hl b1 b2 b3 b4)
    | double z => exact lv_ldc2d cx cb cown (cw _ (ab_at_mem hv)) hd (k p e R s m args below meth c H locs cells slots ls mcT msT C hR hS hl b1 b2 b3 b4)
    | _ => cases hv
  | iload q =>
    simp only [ab_okI, Bool.and_eq_true] at hk
    obtain ⟨hn, he⟩ := hk
    have hn := Nat.eq_of_beq_eq_true hn
    subst hn
    have he := Nat.eq_of_beq_eq_true he
    subst he
    obtain ⟨v1, g1, g2, g3⟩ := ab_load_inv hs
    obtain ⟨z, rfl⟩ := ab_isT_0 g2
    cases g3
    exact lv_iload cx cb hd (ab_has_at hl g1) (k p e R s m args below meth c H locs cells slots ls mcT msT C hR hS hl b1 b2 b3 b4)
  | iload_n q =>
    simp only [ab_okI, Bool.and_eq_true] at hk
    obtain ⟨hn, he⟩ := hk
    have hn := Nat.eq_of_beq_eq_true hn
    subst hn
    have he := Nat.eq_of_beq_eq_true he
    obtain ⟨v1, g1, g2, g3⟩ := ab_load_inv hs
    obtain ⟨z, rfl⟩ := ab_isT_0 g2
    cases g3
    exact lv_iload_n cx cb hd he (ab_has_at hl g1) (k p e R s m args below meth c H locs cells slots ls mcT msT C hR hS hl b1 b2 b3 b4)
  | lload q =>
    simp only [ab_okI, Bool.and_eq_true] at hk
    obtain ⟨hn, he⟩ := hk
    have hn := Nat.eq_of_beq_eq_true hn
    subst hn
    have he := Nat.eq_of_beq_eq_true he
    subst he
    obtain ⟨v1, g1, g2, g3⟩ := ab_load_inv hs
    obtain ⟨z, rfl⟩ := ab_isT_1 g2
    cases g3
    exact lv_lload cx cb hd (ab_has_at hl g1) (k p e R s m args below meth c H locs cells slots ls mcT msT C hR hS hl b1 b2 b3 b4)
  | lload_n q =>
    simp only [ab_okI, Bool.and_eq_true] at hk
    obtain ⟨hn, he⟩ := hk
    have hn := Nat.eq_of_beq_eq_true hn
    subst hn
    have he := Nat.eq_of_beq_eq_true he
    obtain ⟨v1, g1, g2, g3⟩ := ab_load_inv hs
    obtain ⟨z, rfl⟩ := ab_isT_1 g2
    cases g3
    exact lv_lload_n cx cb hd he (ab_has_at hl g1) (k p e R s m args below meth c H locs cells slots ls mcT msT C hR hS hl b1 b2 b3 b4)
  | dload q =>
    simp only [ab_okI, Bool.and_eq_true] at hk
    obtain ⟨hn, he⟩ := hk
    have hn := Nat.eq_of_beq_eq_true hn
    subst hn
    have he := Nat.eq_of_beq_eq_true he
    subst he
    obtain ⟨v1, g1, g2, g3⟩ := ab_load_inv hs
    obtain ⟨z, rfl⟩ := ab_isT_2 g2
    cases g3
    exact lv_dload cx cb hd (ab_has_at hl g1) (k p e R s m args below meth c H locs cells slots ls mcT msT C hR hS hl b1 b2 b3 b4)
  | dload_n q =>
    simp only [ab_okI, Bool.and_eq_true] at hk
    obtain ⟨hn, he⟩ := hk
    have hn := Nat.eq_of_beq_eq_true hn
    subst hn
    have he := Nat.eq_of_beq_eq_true he
    obtain ⟨v1, g1, g2, g3⟩ := ab_load_inv hs
    obtain ⟨z, rfl⟩ := ab_isT_2 g2
    cases g3
    exact lv_dload_n cx cb hd he (ab_has_at hl g1) (k p e R s m args below meth c H locs cells slots ls mcT msT C hR hS hl b1 b2 b3 b4)
  | aload q =>
    simp only [ab_okI, Bool.and_eq_true] at hk
    obtain ⟨hn, he⟩ := hk
    have hn := Nat.eq_of_beq_eq_true hn
    subst hn
    have he := Nat.eq_of_beq_eq_true he
    subst he
    obtain ⟨v1, g1, g2, g3⟩ := ab_load_inv hs
    obtain ⟨z, rfl⟩ := ab_isT_3 g2
    cases g3
    exact lv_aload cx cb hd (ab_has_at hl g1) (k p e R s m args below meth c H locs cells slots ls mcT msT C hR hS hl b1 b2 b3 b4)
  | aload_n q =>
    simp only [ab_okI, Bool.and_eq_true] at hk
    obtain ⟨hn, he⟩ := hk
    have hn := Nat.eq_of_beq_eq_true hn
    subst hn
    have he := Nat.eq_of_beq_eq_true he
    obtain ⟨v1, g1, g2, g3⟩ := ab_load_inv hs
    obtain ⟨z, rfl⟩ := ab_isT_3 g2
    cases g3
    exact lv_aload_n cx cb hd he (ab_has_at hl g1) (k p e R s m args below meth c H locs cells slots ls mcT msT C hR hS hl b1 b2 b3 b4)
  | istore q =>
    simp only [ab_okI, Bool.and_eq_true] at hk
    obtain ⟨⟨hn, he⟩, hlt⟩ := hk
    have hn := Nat.eq_of_beq_eq_true hn
    subst hn
    have he := Nat.eq_of_beq_eq_true he
    subst he
    have hlt := Nat.le_of_ble_eq_true hlt
    obtain ⟨v1, r1, rfl, g2, g3⟩ := ab_store1_inv hs
    obtain ⟨z, rfl⟩ := ab_isT_0 g2
    cases g3
    exact lv_istore (lv' := _) cx cb hd hl hlt rfl (fun ls' hl' => k p e R s m args below meth c H locs cells slots ls' mcT msT C hR hS (ab_put1_has hl') b1 b2 b3 b4)
  | istore_n q =>
    simp only [ab_okI, Bool.and_eq_true] at hk
    obtain ⟨⟨hn, he⟩, hlt⟩ := hk
    have hn := Nat.eq_of_beq_eq_true hn
    subst hn
    have he := Nat.eq_of_beq_eq_true he
    have hlt := Nat.le_of_ble_eq_true hlt
    obtain ⟨v1, r1, rfl, g2, g3⟩ := ab_store1_inv hs
    obtain ⟨z, rfl⟩ := ab_isT_0 g2
    cases g3
    exact lv_istore_n (lv' := _) cx cb hd he hl hlt rfl (fun ls' hl' => k p e R s m args below meth c H locs cells slots ls' mcT msT C hR hS (ab_put1_has hl') b1 b2 b3 b4)
  | astore q =>
    simp only [ab_okI, Bool.and_eq_true] at hk
    obtain ⟨⟨hn, he⟩, hlt⟩ := hk
    have hn := Nat.eq_of_beq_eq_true hn
    subst hn
    have he := Nat.eq_of_beq_eq_true he
    subst he
    have hlt := Nat.le_of_ble_eq_true hlt
    obtain ⟨v1, r1, rfl, g2, g3⟩ := ab_store1_inv hs
    obtain ⟨z, rfl⟩ := ab_isT_3 g2
    cases g3
    exact lv_astore (lv' := _) cx cb hd hl hlt rfl (fun ls' hl' => k p e R s m args below meth c H locs cells slots ls' mcT msT C hR hS (ab_put1_has hl') b1 b2 b3 b4)
  | astore_n q =>
    simp only [ab_okI, Bool.and_eq_true] at hk
    obtain ⟨⟨hn, he⟩, hlt⟩ := hk
    have hn := Nat.eq_of_beq_eq_true hn
    subst hn
    have he := Nat.eq_of_beq_eq_true he
    have hlt := Nat.le_of_ble_eq_true hlt
    obtain ⟨v1, r1, rfl, g2, g3⟩ := ab_store1_inv hs
    obtain ⟨z, rfl⟩ := ab_isT_3 g2
    cases g3
    exact lv_astore_n (lv' := _) cx cb hd he hl hlt rfl (fun ls' hl' => k p e R s m args below meth c H locs cells slots ls' mcT msT C hR hS (ab_put1_has hl') b1 b2 b3 b4)
  | lstore q =>
    simp only [ab_okI, Bool.and_eq_true] at hk
    obtain ⟨⟨hn, he⟩, hlt⟩ := hk
    have hn := Nat.eq_of_beq_eq_true hn
    subst hn
    have he := Nat.eq_of_beq_eq_true he
    subst he
    have hlt := Nat.le_of_ble_eq_true hlt
    obtain ⟨v1, r1, rfl, g2, g3⟩ := ab_store2_inv hs
    obtain ⟨z, rfl⟩ := ab_isT_1 g2
    cases g3
    exact lv_lstore (lv' := _) cx cb hd hl hlt rfl (fun ls' hl' => k p e R s m args below meth c H locs cells slots ls' mcT msT C hR hS (ab_put2_has hl') b1 b2 b3 b4)
  | lstore_n q =>
    simp only [ab_okI, Bool.and_eq_true] at hk
    obtain ⟨⟨hn, he⟩, hlt⟩ := hk
    have hn := Nat.eq_of_beq_eq_true hn
    subst hn
    have he := Nat.eq_of_beq_eq_true he
    have hlt := Nat.le_of_ble_eq_true hlt
    obtain ⟨v1, r1, rfl, g2, g3⟩ := ab_store2_inv hs
    obtain ⟨z, rfl⟩ := ab_isT_1 g2
    cases g3
    exact lv_lstore_n (lv' := _) cx cb hd he hl hlt rfl (fun ls' hl' => k p e R s m args below meth c H locs cells slots ls' mcT msT C hR hS (ab_put2_has hl') b1 b2 b3 b4)
  | dstore q =>
    simp only [ab_okI, Bool.and_eq_true] at hk
    obtain ⟨⟨hn, he⟩, hlt⟩ := hk
    have hn := Nat.eq_of_beq_eq_true hn
    subst hn
    have he := Nat.eq_of_beq_eq_true he
    subst he
    have hlt := Nat.le_of_ble_eq_true hlt
    obtain ⟨v1, r1, rfl, g2, g3⟩ := ab_store2_inv hs
    obtain ⟨z, rfl⟩ := ab_isT_2 g2
    cases g3
    exact lv_dstore (lv' := _) cx cb hd hl hlt rfl (fun ls' hl' => k p e R s m args below meth c H locs cells slots ls' mcT msT C hR hS (ab_put2_has hl') b1 b2 b3 b4)
  | dstore_n q =>
    simp only [ab_okI, Bool.and_eq_true] at hk
    obtain ⟨⟨hn, he⟩, hlt⟩ := hk
    have hn := Nat.eq_of_beq_eq_true hn
    subst hn
    have he := Nat.eq_of_beq_eq_true he
    have hlt := Nat.le_of_ble_eq_true hlt
    obtain ⟨v1, r1, rfl, g2, g3⟩ := ab_store2_inv hs
    obtain ⟨z, rfl⟩ := ab_isT_2 g2
    cases g3
    exact lv_dstore_n (lv' := _) cx cb hd he hl hlt rfl (fun ls' hl' => k p e R s m args below meth c H locs cells slots ls' mcT msT C hR hS (ab_put2_has hl') b1 b2 b3 b4)
  | iinc q z =>
    simp only [ab_okI, Bool.and_eq_true, decide_eq_true_eq] at hk
    obtain ⟨⟨⟨hn, he⟩, hlt⟩, hv⟩ := hk
    have hn := Nat.eq_of_beq_eq_true hn
    subst hn
    have he := Nat.eq_of_beq_eq_true he
    subst he
    subst hv
    have hlt := Nat.le_of_ble_eq_true hlt
    simp only [ab_step] at hs
    split at hs
    · rename_i x1 k1 g1 g2
      cases hs
      cases g2
      have hm : (q, Value.int x1) ∈ ab_lvs E L := ab_lvs_mem.mpr ⟨.int x1, g1, rfl⟩
      obtain ⟨j, hj⟩ := List.getElem?_of_mem hm
      exact lv_iinc (k := j) (lv' := _) cx cb hd hl hj rfl hlt rfl (fun ls' hl' => k p e R s m args below meth c H locs cells slots ls' mcT msT C hR hS (ab_put1_has (v := .int (x1 + Int32.ofInt z)) hl') b1 b2 b3 b4)
    · cases hs
  | iadd =>
    have hn := Nat.eq_of_beq_eq_true (show Nat.beq n 1 = true from hk)
    subst hn
    obtain ⟨x1, y1, r1, rfl, g⟩ := ab_bin_inv hs
    cases g
    exact lv_iadd cx cb hd (k p e R s m args below meth c H locs cells slots ls mcT msT C hR hS hl b1 b2 b3 b4)
  | isub =>
    have hn := Nat.eq_of_beq_eq_true (show Nat.beq n 1 = true from hk)
    subst hn
    obtain ⟨x1, y1, r1, rfl, g⟩ := ab_bin_inv hs
    cases g
    exact lv_isub cx cb hd (k p e R s m args below meth c H locs cells slots ls mcT msT C hR hS hl b1 b2 b3 b4)
  | imul =>
    have hn := Nat.eq_of_beq_eq_true (show Nat.beq n 1 = true from hk)
    subst hn
    obtain ⟨x1, y1, r1, rfl, g⟩ := ab_bin_inv hs
    cases g
    exact lv_imul cx cb hd (k p e R s m args below meth c H locs cells slots ls mcT msT C hR hS hl b1 b2 b3 b4)
  | iand =>
    have hn := Nat.eq_of_beq_eq_true (show Nat.beq n 1 = true from hk)
    subst hn
    obtain ⟨x1, y1, r1, rfl, g⟩ := ab_bin_inv hs
    cases g
    exact lv_iand cx cb hd (k p e R s m args below meth c H locs cells slots ls mcT msT C hR hS hl b1 b2 b3 b4)
  | ior =>
    have hn := Nat.eq_of_beq_eq_true (show Nat.beq n 1 = true from hk)
    subst hn
    obtain ⟨x1, y1, r1, rfl, g⟩ := ab_bin_inv hs
    cases g
    exact lv_ior cx cb hd (k p e R s m args below meth c H locs cells slots ls mcT msT C hR hS hl b1 b2 b3 b4)
  | ishl =>
    have hn := Nat.eq_of_beq_eq_true (show Nat.beq n 1 = true from hk)
    subst hn
    obtain ⟨x1, y1, r1, rfl, g⟩ := ab_bin_inv hs
    cases g
    exact lv_ishl cx cb hd (k p e R s m args below meth c H locs cells slots ls mcT msT C hR hS hl b1 b2 b3 b4)
  | ishr =>
    have hn := Nat.eq_of_beq_eq_true (show Nat.beq n 1 = true from hk)
    subst hn
    obtain ⟨x1, y1, r1, rfl, g⟩ := ab_bin_inv hs
    cases g
    exact lv_ishr cx cb hd (k p e R s m args below meth c H locs cells slots ls mcT msT C hR hS hl b1 b2 b3 b4)
  | iushr =>
    have hn := Nat.eq_of_beq_eq_true (show Nat.beq n 1 = true from hk)
    subst hn
    obtain ⟨x1, y1, r1, rfl, g⟩ := ab_bin_inv hs
    cases g
    exact lv_iushr cx cb hd rfl (k p e R s m args below meth c H locs cells slots ls mcT msT C hR hS hl b1 b2 b3 b4)
  | idiv =>
    have hn := Nat.eq_of_beq_eq_true (show Nat.beq n 1 = true from hk)
    subst hn
    obtain ⟨x1, y1, r1, rfl, g⟩ := ab_binZ_inv hs
    cases g
    exact lv_idiv cx cb hd hp (k p e R s m args below meth c H locs cells slots ls mcT msT C hR hS hl b1 b2 b3 b4)
  | irem =>
    have hn := Nat.eq_of_beq_eq_true (show Nat.beq n 1 = true from hk)
    subst hn
    obtain ⟨x1, y1, r1, rfl, g⟩ := ab_binZ_inv hs
    cases g
    exact lv_irem cx cb hd hp (k p e R s m args below meth c H locs cells slots ls mcT msT C hR hS hl b1 b2 b3 b4)
  | ineg =>
    have hn := Nat.eq_of_beq_eq_true (show Nat.beq n 1 = true from hk)
    subst hn
    obtain ⟨x1, r1, rfl, g⟩ := ab_un_inv hs
    cases g
    exact lv_ineg cx cb hd (k p e R s m args below meth c H locs cells slots ls mcT msT C hR hS hl b1 b2 b3 b4)
  | i2l =>
    have hn := Nat.eq_of_beq_eq_true (show Nat.beq n 1 = true from hk)
    subst hn
    obtain ⟨x1, r1, rfl, g⟩ := ab_un_inv hs
    cases g
    exact lv_i2l cx cb hd rfl (k p e R s m args below meth c H locs cells slots ls mcT msT C hR hS hl b1 b2 b3 b4)
  | i2d =>
    have hn := Nat.eq_of_beq_eq_true (show Nat.beq n 1 = true from hk)
    subst hn
    obtain ⟨x1, r1, rfl, g⟩ := ab_un_inv hs
    cases g
    exact lv_i2d cx cb hd (k p e R s m args below meth c H locs cells slots ls mcT msT C hR hS hl b1 b2 b3 b4)
  | ladd =>
    have hn := Nat.eq_of_beq_eq_true (show Nat.beq n 1 = true from hk)
    subst hn
    obtain ⟨x1, y1, r1, rfl, g⟩ := ab_binL_inv hs
    cases g
    exact lv_ladd cx cb hd (k p e R s m args below meth c H locs cells slots ls mcT msT C hR hS hl b1 b2 b3 b4)
  | lsub =>
    have hn := Nat.eq_of_beq_eq_true (show Nat.beq n 1 = true from hk)
    subst hn
    obtain ⟨x1, y1, r1, rfl, g⟩ := ab_binL_inv hs
    cases g
    exact lv_lsub cx cb hd (k p e R s m args below meth c H locs cells slots ls mcT msT C hR hS hl b1 b2 b3 b4)
  | lmul =>
    have hn := Nat.eq_of_beq_eq_true (show Nat.beq n 1 = true from hk)
    subst hn
    obtain ⟨x1, y1, r1, rfl, g⟩ := ab_binL_inv hs
    cases g
    exact lv_lmul cx cb hd (k p e R s m args below meth c H locs cells slots ls mcT msT C hR hS hl b1 b2 b3 b4)
  | lor =>
    have hn := Nat.eq_of_beq_eq_true (show Nat.beq n 1 = true from hk)
    subst hn
    obtain ⟨x1, y1, r1, rfl, g⟩ := ab_binL_inv hs
    cases g
    exact lv_lor cx cb hd (k p e R s m args below meth c H locs cells slots ls mcT msT C hR hS hl b1 b2 b3 b4)
  | lcmp =>
    have hn := Nat.eq_of_beq_eq_true (show Nat.beq n 1 = true from hk)
    subst hn
    obtain ⟨x1, y1, r1, rfl, g⟩ := ab_binL_inv hs
    cases g
    exact W.lcmp cx cb hd (k p e R s m args below meth c H locs cells slots ls mcT msT C hR hS hl b1 b2 b3 b4)
  | dmul =>
    have hn := Nat.eq_of_beq_eq_true (show Nat.beq n 1 = true from hk)
    subst hn
    obtain ⟨x1, y1, r1, rfl, g⟩ := ab_binD_inv hs
    cases g
    exact lv_dmul cx cb hd hp (k p e R s m args below meth c H locs cells slots ls mcT msT C hR hS hl b1 b2 b3 b4)
  | dsub =>
    have hn := Nat.eq_of_beq_eq_true (show Nat.beq n 1 = true from hk)
    subst hn
    obtain ⟨x1, y1, r1, rfl, g⟩ := ab_binD_inv hs
    cases g
    exact lv_dsub cx cb hd hp (k p e R s m args below meth c H locs cells slots ls mcT msT C hR hS hl b1 b2 b3 b4)
  | ddiv =>
    have hn := Nat.eq_of_beq_eq_true (show Nat.beq n 1 = true from hk)
    subst hn
    obtain ⟨x1, y1, r1, rfl, g⟩ := ab_binD_inv hs
    cases g
    exact lv_ddiv cx cb hd hp (k p e R s m args below meth c H locs cells slots ls mcT msT C hR hS hl b1 b2 b3 b4)
  | lshl =>
    have hn := Nat.eq_of_beq_eq_true (show Nat.beq n 1 = true from hk)
    subst hn
    simp only [ab_step] at hs
    split at hs
    · cases hs
      exact lv_lshl cx cb hd rfl (k p e R s m args below meth c H locs cells slots ls mcT msT C hR hS hl b1 b2 b3 b4)
    · cases hs
  | dcmp op =>
    have hn := Nat.eq_of_beq_eq_true (show Nat.beq n 1 = true from hk)
    subst hn
    simp only [ab_step] at hs
    split at hs
    · cases hs
      exact lv_dcmp cx cb hd (k p e R s m args below meth c H locs cells slots ls mcT msT C hR hS hl b1 b2 b3 b4)
    · cases hs
  | d2l =>
    have hn := Nat.eq_of_beq_eq_true (show Nat.beq n 1 = true from hk)
    subst hn
    simp only [ab_step] at hs
    split at hs
    · cases hs
      exact lv_d2l cx cb hd (k p e R s m args below meth c H locs cells slots ls mcT msT C hR hS hl b1 b2 b3 b4)
    · cases hs
  | dup =>
    have hn := Nat.eq_of_beq_eq_true (show Nat.beq n 1 = true from hk)
    subst hn
    simp only [ab_step] at hs
    split at hs
    · rename_i v1 r1
      split at hs
      · rename_i hc1
        cases hs
        exact lv_dup cx cb hd ((ab_cat_v E v1).trans (Nat.eq_of_beq_eq_true hc1)) (k p e R s m args below meth c H locs cells slots ls mcT msT C hR hS hl b1 b2 b3 b4)
      · cases hs
    · cases hs
  | pop =>
    have hn := Nat.eq_of_beq_eq_true (show Nat.beq n 1 = true from hk)
    subst hn
    simp only [ab_step] at hs
    split at hs
    · rename_i v1 r1
      split at hs
      · rename_i hc1
        cases hs
        exact lv_pop cx cb hd ((ab_cat_v E v1).trans (Nat.eq_of_beq_eq_true hc1)) (k p e R s m args below meth c H locs cells slots ls mcT msT C hR hS hl b1 b2 b3 b4)
      · cases hs
    · cases hs
  | dup2 =>
    have hn := Nat.eq_of_beq_eq_true (show Nat.beq n 1 = true from hk)
    subst hn
    simp only [ab_step] at hs
    split at hs
    · rename_i v1 w1 r1
      split at hs
      · rename_i hc1 hc2
        cases hs
        exact lv_dup2_11 cx cb hd ((ab_cat_v E v1).trans (Nat.eq_of_beq_eq_true hc1)) ((ab_cat_v E w1).trans (Nat.eq_of_beq_eq_true hc2)) (k p e R s m args below meth c H locs cells slots ls mcT msT C hR hS hl b1 b2 b3 b4)
      · cases hs
    · cases hs
  | goto off =>
    simp only [ab_okI, Bool.and_eq_true, decide_eq_true_eq] at hk
    obtain ⟨hn, ht⟩ := hk
    have hn := Nat.eq_of_beq_eq_true hn
    subst hn
    cases hs
    exact lv_goto cx cb hd ht (k p e R s m args below meth c H locs cells slots ls mcT msT C hR hS hl b1 b2 b3 b4)
  | getfield idx =>
    simp only [ab_okI, Bool.and_eq_true] at hk
    obtain ⟨hn, hli⟩ := hk
    have hn := Nat.eq_of_beq_eq_true hn
    subst hn
    obtain ⟨Cn, T, N, hcl, hbN, hlw⟩ := ab_link_inv hli
    obtain ⟨hin, -, -, hty, hnm, hCT⟩ := ab_cls a Cn T N hcl
    obtain ⟨q, z, fs, w, rfl, hg, hw, he⟩ := ab_getf_inv hs
    cases he
    have q0 := ab_new_of hR hg
    have ha := hR.2.2.2.1 q _ q0 hg
    exact va_get cx cb cw hin cown cK (ab_P1 ha) 0 rfl hcl b hbN (cw _ hlw) (fun x hx => by rw [← hCT b hbN]; exact hx) (v := ab_v E w) (by rw [List.getElem?_map, hw]; rfl) hd (k p e R s m args below meth c H locs cells slots ls mcT msT C hR hS hl b1 b2 b3 b4)
  | putfield idx =>
    simp only [ab_okI, Bool.and_eq_true] at hk
    obtain ⟨⟨hn, hli⟩, hfi⟩ := hk
    have hn := Nat.eq_of_beq_eq_true hn
    subst hn
    obtain ⟨Cn, T, N, hcl, hbN, hlw⟩ := ab_link_inv hli
    obtain ⟨hin, -, -, hty, hnm, hCT⟩ := ab_cls a Cn T N hcl
    obtain ⟨w, q, z, fs, rfl, hg, hlb, hov, he⟩ := ab_putf_inv hs
    cases he
    have q0 := ab_new_of hR hg
    have ha := hR.2.2.2.1 q _ q0 hg
    have hov := ab_okv_ok (E := E) hov
    refine am_put cx cb cw hin (ab_ty a) hty hnm cown cK hS (ab_ge q0) ha hcl b hbN (hCT b hbN) (cw _ hlw) (fun hf => ?_) hov.1 hov.2 (by simpa using hlb) hd (fun H1 locs1 g1 g2 g3 g4 => k p e R s m args below meth c H1 locs1 cells slots ls mcT msT C (ab_R_set hR q0 hg (by show va_at _ _ (_, .inr (a, (fs.set b w).map (ab_v E))) H1; rw [List.map_set]; exact g1) g2 g3) g4 hl b1 b2 b3 b4)
    unfold ab_fin at hfi
    rw [hcl] at hfi
    dsimp only at hfi
    rw [if_pos hf, Bool.and_eq_true, decide_eq_true_eq, decide_eq_true_eq] at hfi
    exact ⟨cnm.trans hfi.1, hfi.2⟩
  | getstatic idx =>
    simp only [ab_okI, Bool.and_eq_true] at hk
    obtain ⟨hn, hst⟩ := hk
    have hn := Nat.eq_of_beq_eq_true hn
    subst hn
    cases hs
    split at hst
    · rename_i Cn f dd r hq
      simp only [Bool.and_eq_true, decide_eq_true_eq] at hst
      obtain ⟨⟨rfl, hra⟩, hlw⟩ := hst
      have hra := Nat.eq_of_beq_eq_true hra
      subst hra
      exact va_gets cx cb (cSF.1 _ (List.mem_of_getElem? hq)) hS cown (cw _ (ab_at_mem hlw)) (fun _ h => h) hd (k p e R s m args below meth c H locs cells slots ls mcT msT C hR hS hl b1 b2 b3 b4)
    · cases hst
  | iaload =>
    have hn := Nat.eq_of_beq_eq_true (show Nat.beq n 1 = true from hk)
    subst hn
    obtain ⟨i1, q, z, k1, f, rfl, hg, he⟩ := ab_ald_inv hs
    cases he
    have hp : vp_in i1 k1 := hp
    obtain ⟨cell, e1, e2, e3, e4, e6, e5⟩ := ab_R_arr hR hg (cK.2 0 _ rfl).1
    have hlt : i1.toNatClampNeg < k1 := Nat.not_le.mp fun q => hp (Or.inr q)
    exact W.iald (v := .int (f i1.toNatClampNeg)) cx cb e1 e2 e3 (fun q9 => q9.elim (fun q8 => hp (Or.inl q8)) (fun q8 => by omega)) (e5 _ hlt) rfl rfl hd (k p e R s m args below meth c H locs cells slots ls mcT msT C hR hS hl b1 b2 b3 b4)
  | iastore =>
    have hn := Nat.eq_of_beq_eq_true (show Nat.beq n 1 = true from hk)
    subst hn
    obtain ⟨x1, i1, q, z, k1, f, rfl, hg, q0, he⟩ := ab_ast_inv hs
    cases he
    have hp : vp_in i1 k1 := hp
    have ha := hR.2.2.2.1 q _ q0 hg
    exact am_iast cx cb hS (cK.2 0 _ rfl).1 (ab_ge q0) ha hp hd (fun H1 locs1 g1 g2 g3 g4 => k p e R s m args below meth c H1 locs1 cells slots ls mcT msT C (ab_R_set hR q0 hg g1 g2 g3) g4 hl b1 b2 b3 b4)
  | arraylength =>
    have hn := Nat.eq_of_beq_eq_true (show Nat.beq n 1 = true from hk)
    subst hn
    obtain ⟨q, z, k1, f, rfl, hg, he⟩ := ab_alen_inv hs
    cases he
    obtain ⟨cell, e1, e2, e3, e4, e6, e5⟩ := ab_R_arr hR hg (cK.2 0 _ rfl).1
    exact W.alen (n := Int32.ofNat k1) cx cb e1 e2 e6 rfl rfl hd (k p e R s m args below meth c H locs cells slots ls mcT msT C hR hS hl b1 b2 b3 b4)
  | invokestatic idx =>
    simp only [ab_okI, Bool.and_eq_true] at hk
    obtain ⟨⟨hn, hj⟩, hli⟩ := hk
    have hn := Nat.eq_of_beq_eq_true hn
    subst hn
    change ab_jdk pc 3 a L st h = _ at hs
    match a, hj, hli, hs with
    | 1, hj, hli, hs =>
      simp only [ab_jdk] at hs
      split at hs
      · split at hs
        · rename_i hcat
          cases hs
          have hcat := ab_cat8 (E := E) hcat
          exact va_mmax cx cb hmL cown (cw _ (ab_at_mem hli)) (cw _ (ab_ats_mem hj _ (by simp))) (cw _ (ab_ats_mem hj _ (by simp))) (cw _ (ab_ats_mem hj _ (by simp))) (by omega) (by omega) (by omega) (by omega) hd (k p e R s m args below meth c H locs cells slots ls mcT msT C hR hS hl b1 b2 b3 b4)
        · cases hs
      · cases hs
    | 2, hj, hli, hs =>
      simp only [ab_jdk] at hs
      split at hs
      · split at hs
        · rename_i hcat
          cases hs
          have hcat := ab_cat8 (E := E) hcat
          exact va_mmin cx cb hmL cown (cw _ (ab_at_mem hli)) (cw _ (ab_ats_mem hj _ (by simp))) (cw _ (ab_ats_mem hj _ (by simp))) (cw _ (ab_ats_mem hj _ (by simp))) (by omega) (by omega) (by omega) (by omega) hd (k p e R s m args below meth c H locs cells slots ls mcT msT C hR hS hl b1 b2 b3 b4)
        · cases hs
      · cases hs
    | 3, hj, hli, hs =>
      simp only [ab_jdk] at hs
      split at hs
      · split at hs
        · rename_i hcat
          cases hs
          have hcat := ab_cat8 (E := E) hcat
          exact va_mabs cx cb hmL cown (cw _ (ab_at_mem hli)) (cw _ (ab_ats_mem hj _ (by simp))) (cw _ (ab_ats_mem hj _ (by simp))) (cw _ (ab_ats_mem hj _ (by simp))) (by omega) (by omega) (by omega) (by omega) hd (k p e R s m args below meth c H locs cells slots ls mcT msT C hR hS hl b1 b2 b3 b4)
        · cases hs
      · cases hs
    | 4, hj, hli, hs =>
      simp only [ab_jdk] at hs
      split at hs
      · split at hs
        · rename_i hcat hg hg2 q0 q1
          cases hs
          have hcat := ab_cat8 (E := E) hcat
          obtain ⟨p1, p2, p3, p4, p5⟩ := hp
          have q0 := ab_ne0 q0
          have q1 := ab_ne0 q1
          have ha := hR.2.2.2.1 _ _ q0 hg
          have ha2 := hR.2.2.2.1 _ _ q1 hg2
          have hw9 : nativeFrameWords "java/lang/System" "arraycopy" 5 ≤ 20 := by decide
          exact am_copyi cx cb hmL cown (cw _ (ab_at_mem hli)) (cw _ (ab_ats_mem hj _ (by simp))) (cw _ (ab_ats_mem hj _ (by simp))) (cw _ (ab_ats_mem hj _ (by simp))) hS (cK.2 0 _ rfl).1 (ab_ge q1) ha ha2 p1 p2 p3 p4 p5 (by omega) (by omega) hd (fun H1 locs1 g1 g2 g3 g4 => k p e R s m args below meth c H1 locs1 cells slots ls mcT msT C (ab_R_set hR q1 hg2 g1 g2 g3) g4 hl b1 b2 b3 b4)
        · cases hs
      · cases hs
    | 0, hj, hli, hs => cases hj
    | 5, hj, hli, hs => cases hli
    | a + 6, hj, hli, hs => cases hj
  | invokespecial idx =>
    simp only [ab_okI, Bool.and_eq_true] at hk
    obtain ⟨⟨⟨hn, ha⟩, hj⟩, hli⟩ := hk
    have hn := Nat.eq_of_beq_eq_true hn
    subst hn
    simp only [ab_step] at hs
    split at hs
    · split at hs
      · rename_i hcat
        cases hs
        have hcat := ab_cat8 (E := E) hcat
        exact W.objInit cx cb cown (cw _ (ab_at_mem hli)) (cw _ (ab_ats_mem hj _ (by simp))) (cw _ (ab_ats_mem hj _ (by simp))) rfl hmL.symm rfl hd (by omega) (by show 2 * 0 + _ + 12 ≤ _; omega) (k p e R s m args below meth c H locs cells slots ls mcT msT C hR hS hl b1 b2 b3 b4)
      · cases hs
    · cases hs
  | _ => cases hs
/-- a straight stretch -/
theorem ap_run_ok {E : AE} {M : AM} {d : Nat} {Q : AQ} {mc ms : Nat} {pc' : Nat} {L' : AL} {st' : List Value} {h1 : AH} (k : AP E M d pc' L' st' h1 Q mc ms) : ∀ {xs : List AI} (_ : ab_oks M xs = true) {pc : Nat} {L : AL} {st : List Value} {h : AH} {Ps : List Prop} (_ : ab_run xs pc L st h = some (Ps, (pc', L', st'), h1)) (_ : ab_all Ps), AP E M d pc L st h Q mc ms
  | [], _, pc, L, st, h, Ps, hs, _ => by
    cases hs
    exact k
  | x :: xs, hx, pc, L, st, h, Ps, hs, hp => by
    unfold ab_oks at hx
    rw [List.all_cons, Bool.and_eq_true] at hx
    unfold ab_run at hs
    split at hs
    · rename_i hpc
      split at hs
      · rename_i P pc2 L2 st2 h2 hs1
        split at hs
        · rename_i Q r hs2
          cases hs
          obtain ⟨p1, p2⟩ := ab_all_app hp
          have hpc := Nat.eq_of_beq_eq_true hpc
          subst hpc
          exact ap_step_ok hx.1 hs1 p1 (ap_run_ok k hx.2 hs2 p2)
        · cases hs
      · cases hs
    · cases hs
section APS
variable {E : AE} {M Mc : AM} {d pc : Nat} {L : AL} {st rest : List Value} {h h1 : AH} {Q : AQ} {mc ms mc1 ms1 : Nat} {idx : Nat} {is : List Nat} {av : List Value} {r : Option Value}
theorem AP.run {xs : List AI} (hx : ab_oks M xs = true) (pc' : Nat) (L' : AL) (st' : List Value) (h1 : AH) (Ps : List Prop) (hs : ab_run xs pc L st h = some (Ps, (pc', L', st'), h1)) (hp : ab_all Ps) (k : AP E M d pc' L' st' h1 Q mc ms) : AP E M d pc L st h Q mc ms := ap_run_ok k hx hs hp
theorem AP.cast {L' : AL} {st' : List Value} {h1 : AH} (hL : L = L') (hst : st = st') (hh : h = h1) (k : AP E M d pc L' st' h1 Q mc ms) : AP E M d pc L st h Q mc ms := by subst hL; subst hst; subst hh; exact k
theorem ap_close {p : Program} {e : Env} {R : Room} {s : State} {m : MethodId} {args : Array Value} {below : List Frame} {meth : Method} {c : Code} {H : Heap} {locs : List Loc} {cells slots : Nat} {ls : Array Slot} {mcT msT : Nat} {a9 : Array Value} {st0 : List Value}
    (C : ab_Ctx E M (d + 1) p R s m args meth c) (hS : va_S (ab_A E) s.heap H locs) (hl : lv_has ls M.maxL (ab_lvs E L)) (b1 : cells + (mc1 + mc) ≤ mcT) (b2 : slots + (ms1 + ms) ≤ msT) (b3 : mcT ≤ R.cells) (b4 : msT ≤ R.slots)
    (hr : vx_Run p E.l e R s m args below meth c H locs cells slots mc1 ms1 (F0 m pc ls st0) (rest.map (ab_v E)) (ab_Qc E (.inl r) h1 a9) (ab_Xc E (.inl r) h1) (ab_A E))
    (k : AP E M (d + 1) (pc + 3) L (r.toList ++ rest) h1 Q mc ms) : W p E.l e R s m args below meth c H locs cells slots (Q below args s mcT msT) (F0 m pc ls st0) := by
  intro T hT X
  rcases hr T hT X with ⟨v, st₀, t, T', L1, h0, X', hL, e1, e2, ⟨r', hr1, hr2, hR1, hF⟩, hgo⟩ | ⟨q, st₀, t, T', L1, E1, ce, h0, X', hL, e1, e2, ⟨hz, -, -⟩, -⟩
  · cases hr1
    cases hr2
    obtain ⟨k1, k2, k3⟩ := vx_keep h0 e1 hS (A1 := ab_A E) (fun _ _ z => z) (fun _ z => z) hL hF
    have hal : t.vm.Alike s.vm := by rw [← e2]; exact X'.warmed.alike.symm
    have hR2 : ab_R E h1 s T'.heap := by rw [e1]; exact ab_R.moved hal hR1
    obtain ⟨t2, a1, b1'⟩ := k p e R s m args below meth c T'.heap (locs ++ L1) (cells + mc1) (slots + ms1) ls mcT msT C hR2 k3 hl (by omega) (by omega) b3 b4 T' rfl X'
    refine ⟨t2, hgo t2 ?_, b1'⟩
    have : (Option.map (ab_v E) r).toList ++ List.map (ab_v E) rest = List.map (ab_v E) (r.toList ++ rest) := by cases r <;> rfl
    rw [this]
    exact a1
  · cases hz
theorem AP.callI {q : Nat} (hk : ab_lkI M.own idx Mc av.length is = true) (hd : decode M.bytes pc = .ok (.invokespecial idx, 3)) (hc : CT E Mc d (.ref q :: av) h (.inl none) h1 mc1 ms1) (hstk : st = av.reverse ++ .ref q :: rest) (hcat : ab_cat rest = true) (k : AP E M (d + 1) (pc + 3) L rest h1 Q mc ms) : AP E M (d + 1) pc L st h Q (mc1 + mc) (ms1 + ms) := by
  subst hstk
  intro p e R s m args below meth c H locs cells slots ls mcT msT C hR hS hl b1 b2 b3 b4
  refine ap_close (r := none) (a9 := ((Value.ref q :: av).map (ab_v E)).toArray) C hS hl b1 b2 b3 b4 (ab_ofRun ?_) k
  have hpre := ab_pre (av := .ref q :: av) C hR hS
  obtain ⟨cx, cb, cml, cr, cown, cw, clk, cnm, cex, cK, cSF, cf, clo, cfi, cfj⟩ := id C
  simp only [ab_lkI, Bool.and_eq_true, decide_eq_true_eq] at hk
  obtain ⟨⟨⟨⟨hk1, hk2⟩, hnm⟩, hret⟩, hh⟩ := hk
  have hm := ab_ats_mem hk1
  obtain ⟨hk3, hk4⟩ := ab_pars_ok hk2
  have hcd : ab_cond Mc ∈ ab_W := hm _ (by simp)
  have hcat := ab_cat8 (E := E) hcat
  have hrm : (ab_rm d mc1 ms1).frames + 1 ≤ R.frames ∧ 8 + (Mc.maxL + 11) + (ab_rm d mc1 ms1).locals ≤ R.locals := ⟨by show d + 8 + 1 ≤ _; omega, by show 8 + (Mc.maxL + 11) + (50 * d + 200) ≤ _; omega⟩
  have hF : CallFix p m c M.bytes M.maxL s args ab_W M.own := ⟨cx, cb, cml, cown, cw⟩
  have hst : (F0 m pc ls ((av.reverse ++ .ref q :: rest).map (ab_v E))).stack = (av.map (ab_v E)).reverse ++ .ref (ab_adr E q) :: rest.map (ab_v E) := by
    show (av.reverse ++ .ref q :: rest).map (ab_v E) = _
    rw [List.map_append, List.map_reverse]
    rfl
  have hw : ab_ws Mc = Cond.code Mc.y Mc.bytes Mc.maxL none :: ab_W := by unfold ab_ws ab_cond; rw [hh, hret]
  exact va_runI (b := ab_adr E q) (As := av.map (ab_v E)) hF hc.met (by
      have hcb : CallB R s args M.own idx Mc.y Mc.bytes Mc.maxL none (ab_ws Mc) (ab_rm d mc1 ms1) mc1 ms1 av.length := callB_of av.length cw (ab_ginM hcd) hw rfl rfl (cw _ (hm _ (by simp))) (cw _ (hm _ (by simp))) hk3 hrm
      exact ⟨hcb, hnm, cw _ (hm _ (by simp))⟩) ⟨ab_blind E _ h, hpre⟩ rfl (by simp) hl.1 hst (by show 2 * 0 + _ ≤ 8; omega) hd ⟨by omega, by omega⟩
theorem AP.new {ci : Nat} {Cn : String} {T : u_T} {N i9 : Nat} {fs : List Value} {tl : List AC} (hex : E.ex = true) (hcl : vwCl[ci]? = some (Cn, T, N)) (hlk : ab_at i9 (.classLink M.own idx Cn) = true) (hd : decode M.bytes pc = .ok (.new idx, 3)) (htl : h[E.caps.length + 1]? = some tl) (hlt : tl.length < 4096) (hfs : ∀ j, j < N → defaultValue (ab_ty ci j) = vp_V fs j) (hmap : fs.map (ab_v E) = fs) (k : AP E M d (pc + 3) L (.ref (4096 * (E.caps.length + 1) + tl.length) :: st) (ab_push h (.inr (ci, fs))) Q mc ms) : AP E M d pc L st h Q (mc + 1) (ms + N) := by
  intro p e R s m args below meth c H locs cells slots ls mcT msT C hR hS hl b1 b2 b3 b4
  obtain ⟨cx, cb, cml, cr, cown, cw, clk, cnm, cex, cK, cSF, cf, clo, cfi, cfj⟩ := id C
  obtain ⟨hin, hins, hini, hty, hnm, hCT⟩ := ab_cls ci Cn T N hcl
  have hKn := cK.1 ci _ hcl
  have hts : ∀ w ∈ ab_W, w.before args s = true := cw
  have had := ab_R_tail hR hex htl hlt
  refine W.newcK cx cb cown (cw _ (ab_at_mem hlk)) (cw _ hins) (cw _ hini) rfl hd (by omega) (by omega) hKn.2.1 rfl fun H1 kC hkC e1 z1 o1 => ?_
  have hva : va_at E.D vwCl (H.size, ab_cell E (.inr (ci, fs))) H1 := by
    show va_at E.D vwCl (H.size, .inr (ci, fs.map (ab_v E))) H1
    rw [hmap]
    exact ⟨_, hcl, (u_born (ab_ty ci) hts hin hKn hkC e1 hty).to hfs⟩
  have hgo := k p e R s m args below meth c H1 locs (cells + 1) (slots + N) ls mcT msT C (ab_R_push hR hex hva z1 o1).1 (ab_S_push hS z1 o1) hl (by omega) (by omega) b3 b4
  rw [← had]
  exact hgo
theorem AP.newaI {x : Int32} {N i9 : Nat} {tl : List AC} (hex : E.ex = true) (hlk : ab_at i9 (.arrayClass .int) = true) (hd : decode M.bytes pc = .ok (.newarray .int, 2)) (htl : h[E.caps.length + 1]? = some tl) (hlt : tl.length < 4096) (hx : ¬ x < 0) (hN : x.toNatClampNeg = N) (hb : N ≤ 60000000) (k : AP E M d (pc + 2) L (.ref (4096 * (E.caps.length + 1) + tl.length) :: st) (ab_push h (.inl (.inl (N, fun _ => 0)))) Q mc ms) : AP E M d pc L (.int x :: st) h Q (mc + 1) (ms + N) := by
  intro p e R s m args below meth c H locs cells slots ls mcT msT C hR hS hl b1 b2 b3 b4
  obtain ⟨cx, cb, cml, cr, cown, cw, clk, cnm, cex, cK, cSF, cf, clo, cfi, cfj⟩ := id C
  have had := ab_R_tail hR hex htl hlt
  refine va_newaK (atype := .int) cx cb (cw _ (ab_at_mem hlk)) rfl hd rfl hx hN (show N * 4 ≤ 536870912 by omega) (by omega) (by omega) rfl fun H1 cA e1 z1 o1 hAr hNm => ?_
  have hcA : cA = E.cI := by
    have h9 : s.vm.findClass "[I" = some cA := hNm
    exact Option.some.inj (h9.symm.trans cfi)
  subst hcA
  have hva : va_at E.D vwCl (H.size, ab_cell E (.inl (.inl (N, fun _ => 0)))) H1 := e1
  have hgo := k p e R s m args below meth c H1 locs (cells + 1) (slots + N) ls mcT msT C (ab_R_push hR hex hva z1 o1).1 (ab_S_push hS z1 o1) hl (by omega) (by omega) b3 b4
  rw [← had]
  exact hgo
theorem AP.ast {n x e q : Nat} {f : Nat → Int32} {i v : Int32} (hx : ab_ok M (pc, .iastore, 1, n, n, n, .null) = true) (hi : i = nI e) (hg : ab_get h q = some (.inl (.inl (x, f)))) (hq : Nat.beq (q / 4096) 0 = false) (he : e < x) (hm : x < 2147483648) (hh : ab_set h q (.inl (.inl (x, upd f e v))) = h1) (k : AP E M d (pc + 1) L st h1 Q mc ms) : AP E M d pc L (.int v :: .int i :: .ref q :: st) h Q mc ms := by
  subst hi
  subst hh
  have e1 : (nI e).toNatClampNeg = e := nI_clamp (by omega)
  refine ap_step_ok hx (Ps := [vp_in (nI e) x]) (pc' := pc + 1) (L' := L) (st' := st) (h1 := ab_set h q (.inl (.inl (x, upd f e v)))) ?_ (vp_in_nI he (by omega)) k
  simp only [ab_step, ab_ast, hg, hq, e1]
end APS
