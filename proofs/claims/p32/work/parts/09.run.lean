theorem ab_link_inv {own : String} {idx a b c : Nat} (h : ab_link own idx a b c = true) : ∃ C T N, vwCl[a]? = some (C, T, N) ∧ b < N ∧ Cond.fieldLink own idx C (T b).2.1 (T b).2.2.1 ∈ ab_W := by
  unfold ab_link at h
  split at h
  · rename_i C T N hc
    rw [Bool.and_eq_true] at h
    exact ⟨C, T, N, hc, by simpa using h.1, ab_at_mem h.2⟩
  · cases h
theorem ab_new_of {E : AE} {h : AH} {U : State} {H : Heap} (hR : ab_R E h U H) {q : Nat} {z : Nat × List Value} (hg : ab_get h q = some (.inr z)) : ¬ q / 4096 = 0 := by
  intro e
  obtain ⟨n, f, e1, -⟩ := hR.2.2.2.2 q _ e hg
  cases e1
theorem ab_new_ofL {E : AE} {h : AH} {U : State} {H : Heap} (hR : ab_R E h U H) {q : Nat} {z : Nat × (Nat → Int64)} (hg : ab_get h q = some (.inl (.inr z))) : ¬ q / 4096 = 0 := by
  intro e
  obtain ⟨n, f, e1, -⟩ := hR.2.2.2.2 q _ e hg
  cases e1
theorem ab_catmap (E : AE) (z : List Value) : ((z.map (ab_v E)).map fun v => v.category).sum = (z.map fun v => v.category).sum := by
  rw [List.map_map]
  congr 1
  exact List.map_congr_left fun v _ => ab_cat_v E v
theorem ab_cat8 {E : AE} {z : List Value} (h : ab_cat z = true) : ((z.map (ab_v E)).map fun v => v.category).sum ≤ 8 := by
  rw [ab_catmap]
  exact Nat.le_of_ble_eq_true h
set_option maxHeartbeats 4000000 in
set_option maxRecDepth 100000 in
/-- one instruction -/
theorem ab_step_ok {E : AE} {M : AM} {d : Nat} {x : AI} (hx : ab_ok M x = true) {L : AL} {st : List Value} {h : AH} {Ps : List Prop} {pc' : Nat} {L' : AL} {st' : List Value} {h1 : AH} (hs : ab_step x L st h = some (Ps, (pc', L', st'), h1)) (hp : ab_all Ps) {o : AR0} {h' : AH} {mc ms : Nat} (k : AR E M d pc' L' st' h1 o h' mc ms) : AR E M d x.1 L st h o h' mc ms := by
  obtain ⟨pc, i, n, a, b, c9, v⟩ := x
  intro p e R s m args below meth c H locs cells slots ls mcT msT C hR hS hl b1 b2 b3 b4
  obtain ⟨cx, cb, cml, cr, cown, cw, clk, cnm, cex, cK, cSF, cf, clo, cfi, cfj⟩ := id C
  unfold ab_ok at hx
  rw [Bool.and_eq_true, decide_eq_true_eq] at hx
  obtain ⟨hd, hk⟩ := hx
  dsimp only at hd ⊢
  have hmL : c.maxLocals = ls.size := cml.trans hl.1.symm
  cases i with
  | iconst q =>
    simp only [ab_okI, Bool.and_eq_true, decide_eq_true_eq] at hk
    obtain ⟨hn, hv⟩ := hk
    have hn := Nat.eq_of_beq_eq_true hn
    subst hn
    subst hv
    cases hs
    exact lv_iconst cx cb hd rfl (k p e R s m args below meth c H locs cells slots ls mcT msT C hR hS hl b1 b2 b3 b4)
  | bipush q =>
    simp only [ab_okI, Bool.and_eq_true, decide_eq_true_eq] at hk
    obtain ⟨hn, hv⟩ := hk
    have hn := Nat.eq_of_beq_eq_true hn
    subst hn
    subst hv
    cases hs
    exact lv_bipush cx cb hd rfl (k p e R s m args below meth c H locs cells slots ls mcT msT C hR hS hl b1 b2 b3 b4)
  | sipush q =>
    simp only [ab_okI, Bool.and_eq_true, decide_eq_true_eq] at hk
    obtain ⟨hn, hv⟩ := hk
    have hn := Nat.eq_of_beq_eq_true hn
    subst hn
    subst hv
    cases hs
    exact lv_sipush cx cb hd rfl (k p e R s m args below meth c H locs cells slots ls mcT msT C hR hS hl b1 b2 b3 b4)
  | lconst q =>
    simp only [ab_okI, Bool.and_eq_true, decide_eq_true_eq] at hk
    obtain ⟨hn, hv⟩ := hk
    have hn := Nat.eq_of_beq_eq_true hn
    subst hn
    subst hv
    cases hs
    exact lv_lconst cx cb hd rfl (k p e R s m args below meth c H locs cells slots ls mcT msT C hR hS hl b1 b2 b3 b4)
  | dconst q =>
    simp only [ab_okI, Bool.and_eq_true] at hk
    obtain ⟨hn, hv⟩ := hk
    have hn := Nat.eq_of_beq_eq_true hn
    subst hn
    cases hs
    match q, hd, hv with
    | 0, hd, hv =>
      have hv := of_decide_eq_true hv
      subst hv
      exact lv_dconst0 cx cb hd (k p e R s m args below meth c H locs cells slots ls mcT msT C hR hS hl b1 b2 b3 b4)
    | 1, hd, hv =>
      have hv := of_decide_eq_true hv
      subst hv
      exact lv_dconst1 cx cb hd (k p e R s m args below meth c H locs cells slots ls mcT msT C hR hS hl b1 b2 b3 b4)
  | ldc q =>
    simp only [ab_okI, Bool.and_eq_true] at hk
    obtain ⟨hn, hv⟩ := hk
    have hn := Nat.eq_of_beq_eq_true hn
    subst hn
    cases hs
    cases v with
    | int z => exact lv_ldc cx cb cown (cw _ (ab_at_mem hv)) hd (k p e R s m args below meth c H locs cells slots ls mcT msT C hR hS hl b1 b2 b3 b4)
    | _ => cases hv
  | ldc2_w q =>
    simp only [ab_okI, Bool.and_eq_true] at hk
    obtain ⟨hn, hv⟩ := hk
    have hn := Nat.eq_of_beq_eq_true hn
    subst hn
    cases hs
    cases v with
    | long z => exact lv_ldc2 cx cb cown (cw _ (ab_at_mem hv)) hd (k p e R s m args below meth c H locs cells slots ls mcT msT C hR hS hl b1 b2 b3 b4)
    | double z => exact lv_ldc2d cx cb cown (cw _ (ab_at_mem hv)) hd (k p e R s m args below meth c H locs cells slots ls mcT msT C hR hS hl b1 b2 b3 b4)
    | _ => cases hv
  | iload q =>
    simp only [ab_okI, Bool.and_eq_true] at hk
    obtain ⟨hn, he⟩ := hk
    have hn := Nat.eq_of_beq_eq_true hn
    subst hn
    have he := Nat.eq_of_beq_eq_true he
    subst he
    obtain ⟨v1, g1, g2, g3⟩ := ab_load_inv hs
    obtain ⟨z, rfl⟩ := ab_isT_0 g2
    cases g3
    exact lv_iload cx cb hd (ab_has_at hl g1) (k p e R s m args below meth c H locs cells slots ls mcT msT C hR hS hl b1 b2 b3 b4)
  | iload_n q =>
    simp only [ab_okI, Bool.and_eq_true] at hk
    obtain ⟨hn, he⟩ := hk
    have hn := Nat.eq_of_beq_eq_true hn
    subst hn
    have he := Nat.eq_of_beq_eq_true he
    obtain ⟨v1, g1, g2, g3⟩ := ab_load_inv hs
    obtain ⟨z, rfl⟩ := ab_isT_0 g2
    cases g3
    exact lv_iload_n cx cb hd he (ab_has_at hl g1) (k p e R s m args below meth c H locs cells slots ls mcT msT C hR hS hl b1 b2 b3 b4)
  | lload q =>
    simp only [ab_okI, Bool.and_eq_true] at hk
    obtain ⟨hn, he⟩ := hk
    have hn := Nat.eq_of_beq_eq_true hn
    subst hn
    have he := Nat.eq_of_beq_eq_true he
    subst he
    obtain ⟨v1, g1, g2, g3⟩ := ab_load_inv hs
    obtain ⟨z, rfl⟩ := ab_isT_1 g2
    cases g3
    exact lv_lload cx cb hd (ab_has_at hl g1) (k p e R s m args below meth c H locs cells slots ls mcT msT C hR hS hl b1 b2 b3 b4)
  | lload_n q =>
    simp only [ab_okI, Bool.and_eq_true] at hk
    obtain ⟨hn, he⟩ := hk
    have hn := Nat.eq_of_beq_eq_true hn
    subst hn
    have he := Nat.eq_of_beq_eq_true he
    obtain ⟨v1, g1, g2, g3⟩ := ab_load_inv hs
    obtain ⟨z, rfl⟩ := ab_isT_1 g2
    cases g3
    exact lv_lload_n cx cb hd he (ab_has_at hl g1) (k p e R s m args below meth c H locs cells slots ls mcT msT C hR hS hl b1 b2 b3 b4)
  | dload q =>
    simp only [ab_okI, Bool.and_eq_true] at hk
    obtain ⟨hn, he⟩ := hk
    have hn := Nat.eq_of_beq_eq_true hn
    subst hn
    have he := Nat.eq_of_beq_eq_true he
    subst he
    obtain ⟨v1, g1, g2, g3⟩ := ab_load_inv hs
    obtain ⟨z, rfl⟩ := ab_isT_2 g2
    cases g3
    exact lv_dload cx cb hd (ab_has_at hl g1) (k p e R s m args below meth c H locs cells slots ls mcT msT C hR hS hl b1 b2 b3 b4)
  | dload_n q =>
    simp only [ab_okI, Bool.and_eq_true] at hk
    obtain ⟨hn, he⟩ := hk
    have hn := Nat.eq_of_beq_eq_true hn
    subst hn
    have he := Nat.eq_of_beq_eq_true he
    obtain ⟨v1, g1, g2, g3⟩ := ab_load_inv hs
    obtain ⟨z, rfl⟩ := ab_isT_2 g2
    cases g3
    exact lv_dload_n cx cb hd he (ab_has_at hl g1) (k p e R s m args below meth c H locs cells slots ls mcT msT C hR hS hl b1 b2 b3 b4)
  | aload q =>
    simp only [ab_okI, Bool.and_eq_true] at hk
    obtain ⟨hn, he⟩ := hk
    have hn := Nat.eq_of_beq_eq_true hn
    subst hn
    have he := Nat.eq_of_beq_eq_true he
    subst he
    obtain ⟨v1, g1, g2, g3⟩ := ab_load_inv hs
    obtain ⟨z, rfl⟩ := ab_isT_3 g2
    cases g3
    exact lv_aload cx cb hd (ab_has_at hl g1) (k p e R s m args below meth c H locs cells slots ls mcT msT C hR hS hl b1 b2 b3 b4)
  | aload_n q =>
    simp only [ab_okI, Bool.and_eq_true] at hk
    obtain ⟨hn, he⟩ := hk
    have hn := Nat.eq_of_beq_eq_true hn
    subst hn
    have he := Nat.eq_of_beq_eq_true he
    obtain ⟨v1, g1, g2, g3⟩ := ab_load_inv hs
    obtain ⟨z, rfl⟩ := ab_isT_3 g2
    cases g3
    exact lv_aload_n cx cb hd he (ab_has_at hl g1) (k p e R s m args below meth c H locs cells slots ls mcT msT C hR hS hl b1 b2 b3 b4)
  | istore q =>
    simp only [ab_okI, Bool.and_eq_true] at hk
    obtain ⟨⟨hn, he⟩, hlt⟩ := hk
    have hn := Nat.eq_of_beq_eq_true hn
    subst hn
    have he := Nat.eq_of_beq_eq_true he
    subst he
    have hlt := Nat.le_of_ble_eq_true hlt
    obtain ⟨v1, r1, rfl, g2, g3⟩ := ab_store1_inv hs
    obtain ⟨z, rfl⟩ := ab_isT_0 g2
    cases g3
    exact lv_istore (lv' := _) cx cb hd hl hlt rfl (fun ls' hl' => k p e R s m args below meth c H locs cells slots ls' mcT msT C hR hS (ab_put1_has hl') b1 b2 b3 b4)
  | istore_n q =>
    simp only [ab_okI, Bool.and_eq_true] at hk
    obtain ⟨⟨hn, he⟩, hlt⟩ := hk
    have hn := Nat.eq_of_beq_eq_true hn
    subst hn
    have he := Nat.eq_of_beq_eq_true he
    have hlt := Nat.le_of_ble_eq_true hlt
    obtain ⟨v1, r1, rfl, g2, g3⟩ := ab_store1_inv hs
    obtain ⟨z, rfl⟩ := ab_isT_0 g2
    cases g3
    exact lv_istore_n (lv' := _) cx cb hd he hl hlt rfl (fun ls' hl' => k p e R s m args below meth c H locs cells slots ls' mcT msT C hR hS (ab_put1_has hl') b1 b2 b3 b4)
  | astore q =>
    simp only [ab_okI, Bool.and_eq_true] at hk
    obtain ⟨⟨hn, he⟩, hlt⟩ := hk
    have hn := Nat.eq_of_beq_eq_true hn
    subst hn
    have he := Nat.eq_of_beq_eq_true he
    subst he
    have hlt := Nat.le_of_ble_eq_true hlt
    obtain ⟨v1, r1, rfl, g2, g3⟩ := ab_store1_inv hs
    obtain ⟨z, rfl⟩ := ab_isT_3 g2
    cases g3
    exact lv_astore (lv' := _) cx cb hd hl hlt rfl (fun ls' hl' => k p e R s m args below meth c H locs cells slots ls' mcT msT C hR hS (ab_put1_has hl') b1 b2 b3 b4)
  | astore_n q =>
    simp only [ab_okI, Bool.and_eq_true] at hk
    obtain ⟨⟨hn, he⟩, hlt⟩ := hk
    have hn := Nat.eq_of_beq_eq_true hn
    subst hn
    have he := Nat.eq_of_beq_eq_true he
    have hlt := Nat.le_of_ble_eq_true hlt
    obtain ⟨v1, r1, rfl, g2, g3⟩ := ab_store1_inv hs
    obtain ⟨z, rfl⟩ := ab_isT_3 g2
    cases g3
    exact lv_astore_n (lv' := _) cx cb hd he hl hlt rfl (fun ls' hl' => k p e R s m args below meth c H locs cells slots ls' mcT msT C hR hS (ab_put1_has hl') b1 b2 b3 b4)
  | lstore q =>
    simp only [ab_okI, Bool.and_eq_true] at hk
    obtain ⟨⟨hn, he⟩, hlt⟩ := hk
    have hn := Nat.eq_of_beq_eq_true hn
    subst hn
    have he := Nat.eq_of_beq_eq_true he
    subst he
    have hlt := Nat.le_of_ble_eq_true hlt
    obtain ⟨v1, r1, rfl, g2, g3⟩ := ab_store2_inv hs
    obtain ⟨z, rfl⟩ := ab_isT_1 g2
    cases g3
    exact lv_lstore (lv' := _) cx cb hd hl hlt rfl (fun ls' hl' => k p e R s m args below meth c H locs cells slots ls' mcT msT C hR hS (ab_put2_has hl') b1 b2 b3 b4)
  | lstore_n q =>
    simp only [ab_okI, Bool.and_eq_true] at hk
    obtain ⟨⟨hn, he⟩, hlt⟩ := hk
    have hn := Nat.eq_of_beq_eq_true hn
    subst hn
    have he := Nat.eq_of_beq_eq_true he
    have hlt := Nat.le_of_ble_eq_true hlt
    obtain ⟨v1, r1, rfl, g2, g3⟩ := ab_store2_inv hs
    obtain ⟨z, rfl⟩ := ab_isT_1 g2
    cases g3
    exact lv_lstore_n (lv' := _) cx cb hd he hl hlt rfl (fun ls' hl' => k p e R s m args below meth c H locs cells slots ls' mcT msT C hR hS (ab_put2_has hl') b1 b2 b3 b4)
  | dstore q =>
    simp only [ab_okI, Bool.and_eq_true] at hk
    obtain ⟨⟨hn, he⟩, hlt⟩ := hk
    have hn := Nat.eq_of_beq_eq_true hn
    subst hn
    have he := Nat.eq_of_beq_eq_true he
    subst he
    have hlt := Nat.le_of_ble_eq_true hlt
    obtain ⟨v1, r1, rfl, g2, g3⟩ := ab_store2_inv hs
    obtain ⟨z, rfl⟩ := ab_isT_2 g2
    cases g3
    exact lv_dstore (lv' := _) cx cb hd hl hlt rfl (fun ls' hl' => k p e R s m args below meth c H locs cells slots ls' mcT msT C hR hS (ab_put2_has hl') b1 b2 b3 b4)
  | dstore_n q =>
    simp only [ab_okI, Bool.and_eq_true] at hk
    obtain ⟨⟨hn, he⟩, hlt⟩ := hk
    have hn := Nat.eq_of_beq_eq_true hn
    subst hn
    have he := Nat.eq_of_beq_eq_true he
    have hlt := Nat.le_of_ble_eq_true hlt
    obtain ⟨v1, r1, rfl, g2, g3⟩ := ab_store2_inv hs
    obtain ⟨z, rfl⟩ := ab_isT_2 g2
    cases g3
    exact lv_dstore_n (lv' := _) cx cb hd he hl hlt rfl (fun ls' hl' => k p e R s m args below meth c H locs cells slots ls' mcT msT C hR hS (ab_put2_has hl') b1 b2 b3 b4)
  | iinc q z =>
    simp only [ab_okI, Bool.and_eq_true, decide_eq_true_eq] at hk
    obtain ⟨⟨⟨hn, he⟩, hlt⟩, hv⟩ := hk
    have hn := Nat.eq_of_beq_eq_true hn
    subst hn
    have he := Nat.eq_of_beq_eq_true he
    subst he
    subst hv
    have hlt := Nat.le_of_ble_eq_true hlt
    simp only [ab_step] at hs
    split at hs
    · rename_i x1 k1 g1 g2
      cases hs
      cases g2
      have hm : (q, Value.int x1) ∈ ab_lvs E L := ab_lvs_mem.mpr ⟨.int x1, g1, rfl⟩
      obtain ⟨j, hj⟩ := List.getElem?_of_mem hm
      exact lv_iinc (k := j) (lv' := _) cx cb hd hl hj rfl hlt rfl (fun ls' hl' => k p e R s m args below meth c H locs cells slots ls' mcT msT C hR hS (ab_put1_has (v := .int (x1 + Int32.ofInt z)) hl') b1 b2 b3 b4)
    · cases hs
  | iadd =>
    have hn := Nat.eq_of_beq_eq_true (show Nat.beq n 1 = true from hk)
    subst hn
    obtain ⟨x1, y1, r1, rfl, g⟩ := ab_bin_inv hs
    cases g
    exact lv_iadd cx cb hd (k p e R s m args below meth c H locs cells slots ls mcT msT C hR hS hl b1 b2 b3 b4)
  | isub =>
    have hn := Nat.eq_of_beq_eq_true (show Nat.beq n 1 = true from hk)
    subst hn
    obtain ⟨x1, y1, r1, rfl, g⟩ := ab_bin_inv hs
    cases g
    exact lv_isub cx cb hd (k p e R s m args below meth c H locs cells slots ls mcT msT C hR hS hl b1 b2 b3 b4)
  | imul =>
    have hn := Nat.eq_of_beq_eq_true (show Nat.beq n 1 = true from hk)
    subst hn
    obtain ⟨x1, y1, r1, rfl, g⟩ := ab_bin_inv hs
    cases g
    exact lv_imul cx cb hd (k p e R s m args below meth c H locs cells slots ls mcT msT C hR hS hl b1 b2 b3 b4)
  | iand =>
    have hn := Nat.eq_of_beq_eq_true (show Nat.beq n 1 = true from hk)
    subst hn
    obtain ⟨x1, y1, r1, rfl, g⟩ := ab_bin_inv hs
    cases g
    exact lv_iand cx cb hd (k p e R s m args below meth c H locs cells slots ls mcT msT C hR hS hl b1 b2 b3 b4)
  | ior =>
    have hn := Nat.eq_of_beq_eq_true (show Nat.beq n 1 = true from hk)
    subst hn
    obtain ⟨x1, y1, r1, rfl, g⟩ := ab_bin_inv hs
    cases g
    exact lv_ior cx cb hd (k p e R s m args below meth c H locs cells slots ls mcT msT C hR hS hl b1 b2 b3 b4)
  | ishl =>
    have hn := Nat.eq_of_beq_eq_true (show Nat.beq n 1 = true from hk)
    subst hn
    obtain ⟨x1, y1, r1, rfl, g⟩ := ab_bin_inv hs
    cases g
    exact lv_ishl cx cb hd (k p e R s m args below meth c H locs cells slots ls mcT msT C hR hS hl b1 b2 b3 b4)
  | ishr =>
    have hn := Nat.eq_of_beq_eq_true (show Nat.beq n 1 = true from hk)
    subst hn
    obtain ⟨x1, y1, r1, rfl, g⟩ := ab_bin_inv hs
    cases g
    exact lv_ishr cx cb hd (k p e R s m args below meth c H locs cells slots ls mcT msT C hR hS hl b1 b2 b3 b4)
  | iushr =>
    have hn := Nat.eq_of_beq_eq_true (show Nat.beq n 1 = true from hk)
    subst hn
    obtain ⟨x1, y1, r1, rfl, g⟩ := ab_bin_inv hs
    cases g
    exact lv_iushr cx cb hd rfl (k p e R s m args below meth c H locs cells slots ls mcT msT C hR hS hl b1 b2 b3 b4)
  | idiv =>
    have hn := Nat.eq_of_beq_eq_true (show Nat.beq n 1 = true from hk)
    subst hn
    obtain ⟨x1, y1, r1, rfl, g⟩ := ab_binZ_inv hs
    cases g
    exact lv_idiv cx cb hd hp (k p e R s m args below meth c H locs cells slots ls mcT msT C hR hS hl b1 b2 b3 b4)
  | irem =>
    have hn := Nat.eq_of_beq_eq_true (show Nat.beq n 1 = true from hk)
    subst hn
    obtain ⟨x1, y1, r1, rfl, g⟩ := ab_binZ_inv hs
    cases g
    exact lv_irem cx cb hd hp (k p e R s m args below meth c H locs cells slots ls mcT msT C hR hS hl b1 b2 b3 b4)
  | ineg =>
    have hn := Nat.eq_of_beq_eq_true (show Nat.beq n 1 = true from hk)
    subst hn
    obtain ⟨x1, r1, rfl, g⟩ := ab_un_inv hs
    cases g
    exact lv_ineg cx cb hd (k p e R s m args below meth c H locs cells slots ls mcT msT C hR hS hl b1 b2 b3 b4)
  | i2l =>
    have hn := Nat.eq_of_beq_eq_true (show Nat.beq n 1 = true from hk)
    subst hn
    obtain ⟨x1, r1, rfl, g⟩ := ab_un_inv hs
    cases g
    exact lv_i2l cx cb hd rfl (k p e R s m args below meth c H locs cells slots ls mcT msT C hR hS hl b1 b2 b3 b4)
  | i2d =>
    have hn := Nat.eq_of_beq_eq_true (show Nat.beq n 1 = true from hk)
    subst hn
    obtain ⟨x1, r1, rfl, g⟩ := ab_un_inv hs
    cases g
    exact lv_i2d cx cb hd (k p e R s m args below meth c H locs cells slots ls mcT msT C hR hS hl b1 b2 b3 b4)
  | ladd =>
    have hn := Nat.eq_of_beq_eq_true (show Nat.beq n 1 = true from hk)
    subst hn
    obtain ⟨x1, y1, r1, rfl, g⟩ := ab_binL_inv hs
    cases g
    exact lv_ladd cx cb hd (k p e R s m args below meth c H locs cells slots ls mcT msT C hR hS hl b1 b2 b3 b4)
  | lsub =>
    have hn := Nat.eq_of_beq_eq_true (show Nat.beq n 1 = true from hk)
    subst hn
    obtain ⟨x1, y1, r1, rfl, g⟩ := ab_binL_inv hs
    cases g
    exact lv_lsub cx cb hd (k p e R s m args below meth c H locs cells slots ls mcT msT C hR hS hl b1 b2 b3 b4)
  | lmul =>
    have hn := Nat.eq_of_beq_eq_true (show Nat.beq n 1 = true from hk)
    subst hn
    obtain ⟨x1, y1, r1, rfl, g⟩ := ab_binL_inv hs
    cases g
    exact lv_lmul cx cb hd (k p e R s m args below meth c H locs cells slots ls mcT msT C hR hS hl b1 b2 b3 b4)
  | lor =>
    have hn := Nat.eq_of_beq_eq_true (show Nat.beq n 1 = true from hk)
    subst hn
    obtain ⟨x1, y1, r1, rfl, g⟩ := ab_binL_inv hs
    cases g
    exact lv_lor cx cb hd (k p e R s m args below meth c H locs cells slots ls mcT msT C hR hS hl b1 b2 b3 b4)
  | lcmp =>
    have hn := Nat.eq_of_beq_eq_true (show Nat.beq n 1 = true from hk)
    subst hn
    obtain ⟨x1, y1, r1, rfl, g⟩ := ab_binL_inv hs
    cases g
    exact W.lcmp cx cb hd (k p e R s m args below meth c H locs cells slots ls mcT msT C hR hS hl b1 b2 b3 b4)
  | dmul =>
    have hn := Nat.eq_of_beq_eq_true (show Nat.beq n 1 = true from hk)
    subst hn
    obtain ⟨x1, y1, r1, rfl, g⟩ := ab_binD_inv hs
    cases g
    exact lv_dmul cx cb hd hp (k p e R s m args below meth c H locs cells slots ls mcT msT C hR hS hl b1 b2 b3 b4)
  | dsub =>
    have hn := Nat.eq_of_beq_eq_true (show Nat.beq n 1 = true from hk)
    subst hn
    obtain ⟨x1, y1, r1, rfl, g⟩ := ab_binD_inv hs
    cases g
    exact lv_dsub cx cb hd hp (k p e R s m args below meth c H locs cells slots ls mcT msT C hR hS hl b1 b2 b3 b4)
  | ddiv =>
    have hn := Nat.eq_of_beq_eq_true (show Nat.beq n 1 = true from hk)
    subst hn
    obtain ⟨x1, y1, r1, rfl, g⟩ := ab_binD_inv hs
    cases g
    exact lv_ddiv cx cb hd hp (k p e R s m args below meth c H locs cells slots ls mcT msT C hR hS hl b1 b2 b3 b4)
  | lshl =>
    have hn := Nat.eq_of_beq_eq_true (show Nat.beq n 1 = true from hk)
    subst hn
    simp only [ab_step] at hs
    split at hs
    · cases hs
      exact lv_lshl cx cb hd rfl (k p e R s m args below meth c H locs cells slots ls mcT msT C hR hS hl b1 b2 b3 b4)
    · cases hs
  | dcmp op =>
    have hn := Nat.eq_of_beq_eq_true (show Nat.beq n 1 = true from hk)
    subst hn
    simp only [ab_step] at hs
    split at hs
    · cases hs
      exact lv_dcmp cx cb hd (k p e R s m args below meth c H locs cells slots ls mcT msT C hR hS hl b1 b2 b3 b4)
    · cases hs
  | d2l =>
    have hn := Nat.eq_of_beq_eq_true (show Nat.beq n 1 = true from hk)
    subst hn
    simp only [ab_step] at hs
    split at hs
    · cases hs
      exact lv_d2l cx cb hd (k p e R s m args below meth c H locs cells slots ls mcT msT C hR hS hl b1 b2 b3 b4)
    · cases hs
  | dup =>
    have hn := Nat.eq_of_beq_eq_true (show Nat.beq n 1 = true from hk)
    subst hn
    simp only [ab_step] at hs
    split at hs
    · rename_i v1 r1
      split at hs
      · rename_i hc1
        cases hs
        exact lv_dup cx cb hd ((ab_cat_v E v1).trans (Nat.eq_of_beq_eq_true hc1)) (k p e R s m args below meth c H locs cells slots ls mcT msT C hR hS hl b1 b2 b3 b4)
      · cases hs
    · cases hs
  | pop =>
    have hn := Nat.eq_of_beq_eq_true (show Nat.beq n 1 = true from hk)
    subst hn
    simp only [ab_step] at hs
    split at hs
    · rename_i v1 r1
      split at hs
      · rename_i hc1
        cases hs
        exact lv_pop cx cb hd ((ab_cat_v E v1).trans (Nat.eq_of_beq_eq_true hc1)) (k p e R s m args below meth c H locs cells slots ls mcT msT C hR hS hl b1 b2 b3 b4)
      · cases hs
    · cases hs
  | dup2 =>
    have hn := Nat.eq_of_beq_eq_true (show Nat.beq n 1 = true from hk)
    subst hn
    simp only [ab_step] at hs
    split at hs
    · rename_i v1 w1 r1
      split at hs
      · rename_i hc1 hc2
        cases hs
        exact lv_dup2_11 cx cb hd ((ab_cat_v E v1).trans (Nat.eq_of_beq_eq_true hc1)) ((ab_cat_v E w1).trans (Nat.eq_of_beq_eq_true hc2)) (k p e R s m args below meth c H locs cells slots ls mcT msT C hR hS hl b1 b2 b3 b4)
      · cases hs
    · cases hs
  | goto off =>
    simp only [ab_okI, Bool.and_eq_true, decide_eq_true_eq] at hk
    obtain ⟨hn, ht⟩ := hk
    have hn := Nat.eq_of_beq_eq_true hn
    subst hn
    cases hs
    exact lv_goto cx cb hd ht (k p e R s m args below meth c H locs cells slots ls mcT msT C hR hS hl b1 b2 b3 b4)
  | getfield idx =>
    simp only [ab_okI, Bool.and_eq_true] at hk
    obtain ⟨hn, hli⟩ := hk
    have hn := Nat.eq_of_beq_eq_true hn
    subst hn
    obtain ⟨Cn, T, N, hcl, hbN, hlw⟩ := ab_link_inv hli
    obtain ⟨hin, -, -, hty, hnm, hCT⟩ := ab_cls a Cn T N hcl
    obtain ⟨q, z, fs, w, rfl, hg, hw, he⟩ := ab_getf_inv hs
    cases he
    have q0 := ab_new_of hR hg
    have ha := hR.2.2.2.1 q _ q0 hg
    exact va_get cx cb cw hin cown cK (ab_P1 ha) 0 rfl hcl b hbN (cw _ hlw) (fun x hx => by rw [← hCT b hbN]; exact hx) (v := ab_v E w) (by rw [List.getElem?_map, hw]; rfl) hd (k p e R s m args below meth c H locs cells slots ls mcT msT C hR hS hl b1 b2 b3 b4)
  | putfield idx =>
    simp only [ab_okI, Bool.and_eq_true] at hk
    obtain ⟨⟨hn, hli⟩, hfi⟩ := hk
    have hn := Nat.eq_of_beq_eq_true hn
    subst hn
    obtain ⟨Cn, T, N, hcl, hbN, hlw⟩ := ab_link_inv hli
    obtain ⟨hin, -, -, hty, hnm, hCT⟩ := ab_cls a Cn T N hcl
    obtain ⟨w, q, z, fs, rfl, hg, hlb, hov, he⟩ := ab_putf_inv hs
    cases he
    have q0 := ab_new_of hR hg
    have ha := hR.2.2.2.1 q _ q0 hg
    have hov := ab_okv_ok (E := E) hov
    refine am_put cx cb cw hin (ab_ty a) hty hnm cown cK hS (ab_ge q0) ha hcl b hbN (hCT b hbN) (cw _ hlw) (fun hf => ?_) hov.1 hov.2 (by simpa using hlb) hd (fun H1 locs1 g1 g2 g3 g4 => k p e R s m args below meth c H1 locs1 cells slots ls mcT msT C (ab_R_set hR q0 hg (by show va_at _ _ (_, .inr (a, (fs.set b w).map (ab_v E))) H1; rw [List.map_set]; exact g1) g2 g3) g4 hl b1 b2 b3 b4)
    unfold ab_fin at hfi
    rw [hcl] at hfi
    dsimp only at hfi
    rw [if_pos hf, Bool.and_eq_true, decide_eq_true_eq, decide_eq_true_eq] at hfi
    exact ⟨cnm.trans hfi.1, hfi.2⟩
  | getstatic idx =>
    simp only [ab_okI, Bool.and_eq_true] at hk
    obtain ⟨hn, hst⟩ := hk
    have hn := Nat.eq_of_beq_eq_true hn
    subst hn
    cases hs
    split at hst
    · rename_i Cn f dd r hq
      simp only [Bool.and_eq_true, decide_eq_true_eq] at hst
      obtain ⟨⟨rfl, hra⟩, hlw⟩ := hst
      have hra := Nat.eq_of_beq_eq_true hra
      subst hra
      exact va_gets cx cb (cSF.1 _ (List.mem_of_getElem? hq)) hS cown (cw _ (ab_at_mem hlw)) (fun _ h => h) hd (k p e R s m args below meth c H locs cells slots ls mcT msT C hR hS hl b1 b2 b3 b4)
    · cases hst
  | iaload =>
    have hn := Nat.eq_of_beq_eq_true (show Nat.beq n 1 = true from hk)
    subst hn
    obtain ⟨i1, q, z, k1, f, rfl, hg, he⟩ := ab_ald_inv hs
    cases he
    have hp : vp_in i1 k1 := hp
    obtain ⟨cell, e1, e2, e3, e4, e6, e5⟩ := ab_R_arr hR hg (cK.2 0 _ rfl).1
    have hlt : i1.toNatClampNeg < k1 := Nat.not_le.mp fun q => hp (Or.inr q)
    exact W.iald (v := .int (f i1.toNatClampNeg)) cx cb e1 e2 e3 (fun q9 => q9.elim (fun q8 => hp (Or.inl q8)) (fun q8 => by omega)) (e5 _ hlt) rfl rfl hd (k p e R s m args below meth c H locs cells slots ls mcT msT C hR hS hl b1 b2 b3 b4)
  | iastore =>
    have hn := Nat.eq_of_beq_eq_true (show Nat.beq n 1 = true from hk)
    subst hn
    obtain ⟨x1, i1, q, z, k1, f, rfl, hg, q0, he⟩ := ab_ast_inv hs
    cases he
    have hp : vp_in i1 k1 := hp
    have ha := hR.2.2.2.1 q _ q0 hg
    exact am_iast cx cb hS (cK.2 0 _ rfl).1 (ab_ge q0) ha hp hd (fun H1 locs1 g1 g2 g3 g4 => k p e R s m args below meth c H1 locs1 cells slots ls mcT msT C (ab_R_set hR q0 hg g1 g2 g3) g4 hl b1 b2 b3 b4)
  | arraylength =>
    have hn := Nat.eq_of_beq_eq_true (show Nat.beq n 1 = true from hk)
    subst hn
    obtain ⟨q, z, k1, f, rfl, hg, he⟩ := ab_alen_inv hs
    cases he
    obtain ⟨cell, e1, e2, e3, e4, e6, e5⟩ := ab_R_arr hR hg (cK.2 0 _ rfl).1
    exact W.alen (n := Int32.ofNat k1) cx cb e1 e2 e6 rfl rfl hd (k p e R s m args below meth c H locs cells slots ls mcT msT C hR hS hl b1 b2 b3 b4)
  | invokestatic idx =>
    simp only [ab_okI, Bool.and_eq_true] at hk
    obtain ⟨⟨hn, hj⟩, hli⟩ := hk
    have hn := Nat.eq_of_beq_eq_true hn
    subst hn
    change ab_jdk pc 3 a L st h = _ at hs
    match a, hj, hli, hs with
    | 1, hj, hli, hs =>
      simp only [ab_jdk] at hs
      split at hs
      · split at hs
        · rename_i hcat
          cases hs
          have hcat := ab_cat8 (E := E) hcat
          exact va_mmax cx cb hmL cown (cw _ (ab_at_mem hli)) (cw _ (ab_ats_mem hj _ (by simp))) (cw _ (ab_ats_mem hj _ (by simp))) (cw _ (ab_ats_mem hj _ (by simp))) (by omega) (by omega) (by omega) (by omega) hd (k p e R s m args below meth c H locs cells slots ls mcT msT C hR hS hl b1 b2 b3 b4)
        · cases hs
      · cases hs
    | 2, hj, hli, hs =>
      simp only [ab_jdk] at hs
      split at hs
      · split at hs
        · rename_i hcat
          cases hs
          have hcat := ab_cat8 (E := E) hcat
          exact va_mmin cx cb hmL cown (cw _ (ab_at_mem hli)) (cw _ (ab_ats_mem hj _ (by simp))) (cw _ (ab_ats_mem hj _ (by simp))) (cw _ (ab_ats_mem hj _ (by simp))) (by omega) (by omega) (by omega) (by omega) hd (k p e R s m args below meth c H locs cells slots ls mcT msT C hR hS hl b1 b2 b3 b4)
        · cases hs
      · cases hs
    | 3, hj, hli, hs =>
      simp only [ab_jdk] at hs
      split at hs
      · split at hs
        · rename_i hcat
          cases hs
          have hcat := ab_cat8 (E := E) hcat
          exact va_mabs cx cb hmL cown (cw _ (ab_at_mem hli)) (cw _ (ab_ats_mem hj _ (by simp))) (cw _ (ab_ats_mem hj _ (by simp))) (cw _ (ab_ats_mem hj _ (by simp))) (by omega) (by omega) (by omega) (by omega) hd (k p e R s m args below meth c H locs cells slots ls mcT msT C hR hS hl b1 b2 b3 b4)
        · cases hs
      · cases hs
    | 4, hj, hli, hs =>
      simp only [ab_jdk] at hs
      split at hs
      · split at hs
        · rename_i hcat hg hg2 q0 q1
          cases hs
          have hcat := ab_cat8 (E := E) hcat
          obtain ⟨p1, p2, p3, p4, p5⟩ := hp
          have q0 := ab_ne0 q0
          have q1 := ab_ne0 q1
          have ha := hR.2.2.2.1 _ _ q0 hg
          have ha2 := hR.2.2.2.1 _ _ q1 hg2
          have hw9 : nativeFrameWords "java/lang/System" "arraycopy" 5 ≤ 20 := by decide
          exact am_copyi cx cb hmL cown (cw _ (ab_at_mem hli)) (cw _ (ab_ats_mem hj _ (by simp))) (cw _ (ab_ats_mem hj _ (by simp))) (cw _ (ab_ats_mem hj _ (by simp))) hS (cK.2 0 _ rfl).1 (ab_ge q1) ha ha2 p1 p2 p3 p4 p5 (by omega) (by omega) hd (fun H1 locs1 g1 g2 g3 g4 => k p e R s m args below meth c H1 locs1 cells slots ls mcT msT C (ab_R_set hR q1 hg2 g1 g2 g3) g4 hl b1 b2 b3 b4)
        · cases hs
      · cases hs
    | 0, hj, hli, hs => cases hj
    | 5, hj, hli, hs => cases hli
    | a + 6, hj, hli, hs => cases hj
  | invokespecial idx =>
    simp only [ab_okI, Bool.and_eq_true] at hk
    obtain ⟨⟨⟨hn, ha⟩, hj⟩, hli⟩ := hk
    have hn := Nat.eq_of_beq_eq_true hn
    subst hn
    simp only [ab_step] at hs
    split at hs
    · split at hs
      · rename_i hcat
        cases hs
        have hcat := ab_cat8 (E := E) hcat
        exact W.objInit cx cb cown (cw _ (ab_at_mem hli)) (cw _ (ab_ats_mem hj _ (by simp))) (cw _ (ab_ats_mem hj _ (by simp))) rfl hmL.symm rfl hd (by omega) (by show 2 * 0 + _ + 12 ≤ _; omega) (k p e R s m args below meth c H locs cells slots ls mcT msT C hR hS hl b1 b2 b3 b4)
      · cases hs
    · cases hs
  | _ => cases hs
/-- a straight stretch -/
theorem ab_run_ok {E : AE} {M : AM} {d : Nat} {o : AR0} {h' : AH} {mc ms : Nat} {pc' : Nat} {L' : AL} {st' : List Value} {h1 : AH} (k : AR E M d pc' L' st' h1 o h' mc ms) : ∀ {xs : List AI} (_ : ab_oks M xs = true) {pc : Nat} {L : AL} {st : List Value} {h : AH} {Ps : List Prop} (_ : ab_run xs pc L st h = some (Ps, (pc', L', st'), h1)) (_ : ab_all Ps), AR E M d pc L st h o h' mc ms
  | [], _, pc, L, st, h, Ps, hs, _ => by
    cases hs
    exact k
  | x :: xs, hx, pc, L, st, h, Ps, hs, hp => by
    unfold ab_oks at hx
    rw [List.all_cons, Bool.and_eq_true] at hx
    unfold ab_run at hs
    split at hs
    · rename_i hpc
      split at hs
      · rename_i P pc2 L2 st2 h2 hs1
        split at hs
        · rename_i Q r hs2
          cases hs
          obtain ⟨p1, p2⟩ := ab_all_app hp
          have hpc := Nat.eq_of_beq_eq_true hpc
          subst hpc
          exact ab_step_ok hx.1 hs1 p1 (ab_run_ok k hx.2 hs2 p2)
        · cases hs
      · cases hs
    · cases hs
