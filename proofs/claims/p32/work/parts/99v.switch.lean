section SW
abbrev EF (l : Launch) (D : va_G) (cI : ClassId) (old : Nat → Nat) (N0 : Nat) : AE := EM l D cI old N0 0
abbrev st0_ : Nat → Int32 := upd (upd (upd (upd (fun _ => 0) 0 (nI (1))) 1 (nI (1))) 2 (nI (30))) 3 (nI (1))
abbrev cc0_ : Nat → Int32 := upd (fun _ => 0) 4 (nI (2000))
abbrev z0_ : Nat → Int32 := upd (upd (upd (upd (upd (fun _ => 0) 4 (nI (2000))) 7 (nI (1))) 8 (nI (1))) 9 (nI (30))) 10 (nI (1))
abbrev Z0_ : Nat → Int32 := fun _ => 0
def T0_ : Nat → Nat → Int32 := fun j => if j = 5 then z0_ else Z0_
def K0_ : Nat → Nat → Int32 := fun _ => Z0_
def t1_ : List AC := [.inr (4, [.ref 4097, .ref 4116, .ref 4121]), .inr (0, [.ref 4098, .ref 4101, .ref 4104, .ref 4107, .ref 4110, .ref 4113, .int (nI (0)), .int (nI (0))]), .inr (3, [.int (nI (13)), .int (nI (7)), .ref 4099, .ref 4100]), .inl (.inl (91, fun _ => 0)), .inl (.inl (546, fun _ => 0)), .inr (3, [.int (nI (13)), .int (nI (120)), .ref 4102, .ref 4103]), .inl (.inl (1560, fun _ => 0)), .inl (.inl (9360, fun _ => 0)), .inr (3, [.int (nI (5)), .int (nI (5)), .ref 4105, .ref 4106]), .inl (.inl (25, fun _ => 0)), .inl (.inl (150, fun _ => 0)), .inr (3, [.int (nI (3)), .int (nI (4)), .ref 4108, .ref 4109]), .inl (.inl (12, fun _ => 0)), .inl (.inl (72, fun _ => 0)), .inr (3, [.int (nI (60)), .int (nI (5)), .ref 4111, .ref 4112]), .inl (.inl (300, fun _ => 0)), .inl (.inl (1800, fun _ => 0)), .inr (3, [.int (nI (1)), .int (nI (11)), .ref 4114, .ref 4115]), .inl (.inl (11, upd (upd (upd (upd (upd (fun _ => 0) 4 (nI (2000))) 7 (nI (1))) 8 (nI (1))) 9 (nI (30))) 10 (nI (1)))), .inl (.inl (66, fun _ => 0))]
def t2_ : List AC := [.inr (1, [.ref 4117, .ref 4118, .int (nI (0)), .int (nI (0)), .int (nI (0)), .int (nI (0)), .int (nI (0)), .int (nI (0)), .int (nI (0))]), .inl (.inl (60, fun _ => 0)), .inr (3, [.int (nI (10)), .int (nI (3)), .ref 4119, .ref 4120]), .inl (.inl (30, fun _ => 0)), .inl (.inl (0, fun _ => 0))]
def t3_ : List AC := [.inr (2, [.ref 4122, .ref 4125, .ref 4128, .int (nI (0))]), .inr (3, [.int (nI (4)), .int (nI (12)), .ref 4123, .ref 4124]), .inl (.inl (48, fun _ => 0)), .inl (.inl (0, fun _ => 0)), .inr (3, [.int (nI (1)), .int (nI (5)), .ref 4126, .ref 4127]), .inl (.inl (5, fun _ => 0)), .inl (.inl (0, fun _ => 0)), .inr (3, [.int (nI (2)), .int (nI (4)), .ref 4129, .ref 4130]), .inl (.inl (8, fun _ => 0)), .inl (.inl (0, fun _ => 0))]
def t4_ : List AC := [.inl (.inl (28, fun _ => 0)), .inl (.inl (32, fun _ => 0)), .inl (.inl (32, fun _ => 0)), .inl (.inl (32, fun _ => 0)), .inl (.inl (8, fun _ => 0)), .inl (.inl (8, fun _ => 0)), .inl (.inl (60, fun _ => 0)), .inl (.inl (4, upd (upd (upd (upd (fun _ => 0) 0 (nI (1))) 1 (nI (1))) 2 (nI (30))) 3 (nI (1)))), .inl (.inl (7, upd (fun _ => 0) 4 (nI (2000))))]
variable {l : Launch} {D : va_G} {cI : ClassId} {old : Nat → Nat} {N0 : Nat}
theorem adr_C {k : Nat} (hk : k < 4096) : ab_adr (EC l D cI old N0) (4096 + k) = N0 + k := by
  rw [ab_adr_new (by omega)]
  have e1 : (4096 + k) / 4096 - 1 = 0 := by omega
  have e2 : (4096 + k) % 4096 = k := by omega
  rw [e1, e2]
  rfl
theorem adr_F {j i : Nat} (hi : i < 4096) : ab_adr (EF l D cI old N0) (4096 * (j + 1) + i) = N0 + ab_off [20, 5, 10, 9, 0] j + i := by
  rw [ab_adr_new (by omega)]
  have e1 : (4096 * (j + 1) + i) / 4096 - 1 = j := by omega
  have e2 : (4096 * (j + 1) + i) % 4096 = i := by omega
  rw [e1, e2]
theorem adr_FC {j i k : Nat} (hi : i < 4096) (hk : k < 4096) (h : ab_off [20, 5, 10, 9, 0] j + i = k) : ab_adr (EF l D cI old N0) (4096 * (j + 1) + i) = ab_adr (EC l D cI old N0) (4096 + k) := by
  rw [adr_F hi, adr_C hk]
  omega
theorem rf_4096 : ab_adr (EF l D cI old N0) 4096 = ab_adr (EC l D cI old N0) 4096 := adr_FC (j := 0) (i := 0) (k := 0) (by decide) (by decide) (by decide)
theorem rf_4097 : ab_adr (EF l D cI old N0) 4097 = ab_adr (EC l D cI old N0) 4097 := adr_FC (j := 0) (i := 1) (k := 1) (by decide) (by decide) (by decide)
theorem rf_4098 : ab_adr (EF l D cI old N0) 4098 = ab_adr (EC l D cI old N0) 4098 := adr_FC (j := 0) (i := 2) (k := 2) (by decide) (by decide) (by decide)
theorem rf_4099 : ab_adr (EF l D cI old N0) 4099 = ab_adr (EC l D cI old N0) 4099 := adr_FC (j := 0) (i := 3) (k := 3) (by decide) (by decide) (by decide)
theorem rf_4100 : ab_adr (EF l D cI old N0) 4100 = ab_adr (EC l D cI old N0) 4100 := adr_FC (j := 0) (i := 4) (k := 4) (by decide) (by decide) (by decide)
theorem rf_4101 : ab_adr (EF l D cI old N0) 4101 = ab_adr (EC l D cI old N0) 4101 := adr_FC (j := 0) (i := 5) (k := 5) (by decide) (by decide) (by decide)
theorem rf_4102 : ab_adr (EF l D cI old N0) 4102 = ab_adr (EC l D cI old N0) 4102 := adr_FC (j := 0) (i := 6) (k := 6) (by decide) (by decide) (by decide)
theorem rf_4103 : ab_adr (EF l D cI old N0) 4103 = ab_adr (EC l D cI old N0) 4103 := adr_FC (j := 0) (i := 7) (k := 7) (by decide) (by decide) (by decide)
theorem rf_4104 : ab_adr (EF l D cI old N0) 4104 = ab_adr (EC l D cI old N0) 4104 := adr_FC (j := 0) (i := 8) (k := 8) (by decide) (by decide) (by decide)
theorem rf_4105 : ab_adr (EF l D cI old N0) 4105 = ab_adr (EC l D cI old N0) 4105 := adr_FC (j := 0) (i := 9) (k := 9) (by decide) (by decide) (by decide)
theorem rf_4106 : ab_adr (EF l D cI old N0) 4106 = ab_adr (EC l D cI old N0) 4106 := adr_FC (j := 0) (i := 10) (k := 10) (by decide) (by decide) (by decide)
theorem rf_4107 : ab_adr (EF l D cI old N0) 4107 = ab_adr (EC l D cI old N0) 4107 := adr_FC (j := 0) (i := 11) (k := 11) (by decide) (by decide) (by decide)
theorem rf_4108 : ab_adr (EF l D cI old N0) 4108 = ab_adr (EC l D cI old N0) 4108 := adr_FC (j := 0) (i := 12) (k := 12) (by decide) (by decide) (by decide)
theorem rf_4109 : ab_adr (EF l D cI old N0) 4109 = ab_adr (EC l D cI old N0) 4109 := adr_FC (j := 0) (i := 13) (k := 13) (by decide) (by decide) (by decide)
theorem rf_4110 : ab_adr (EF l D cI old N0) 4110 = ab_adr (EC l D cI old N0) 4110 := adr_FC (j := 0) (i := 14) (k := 14) (by decide) (by decide) (by decide)
theorem rf_4111 : ab_adr (EF l D cI old N0) 4111 = ab_adr (EC l D cI old N0) 4111 := adr_FC (j := 0) (i := 15) (k := 15) (by decide) (by decide) (by decide)
theorem rf_4112 : ab_adr (EF l D cI old N0) 4112 = ab_adr (EC l D cI old N0) 4112 := adr_FC (j := 0) (i := 16) (k := 16) (by decide) (by decide) (by decide)
theorem rf_4113 : ab_adr (EF l D cI old N0) 4113 = ab_adr (EC l D cI old N0) 4113 := adr_FC (j := 0) (i := 17) (k := 17) (by decide) (by decide) (by decide)
theorem rf_4114 : ab_adr (EF l D cI old N0) 4114 = ab_adr (EC l D cI old N0) 4114 := adr_FC (j := 0) (i := 18) (k := 18) (by decide) (by decide) (by decide)
theorem rf_4115 : ab_adr (EF l D cI old N0) 4115 = ab_adr (EC l D cI old N0) 4115 := adr_FC (j := 0) (i := 19) (k := 19) (by decide) (by decide) (by decide)
theorem rf_8192 : ab_adr (EF l D cI old N0) 8192 = ab_adr (EC l D cI old N0) 4116 := adr_FC (j := 1) (i := 0) (k := 20) (by decide) (by decide) (by decide)
theorem rf_8193 : ab_adr (EF l D cI old N0) 8193 = ab_adr (EC l D cI old N0) 4117 := adr_FC (j := 1) (i := 1) (k := 21) (by decide) (by decide) (by decide)
theorem rf_8194 : ab_adr (EF l D cI old N0) 8194 = ab_adr (EC l D cI old N0) 4118 := adr_FC (j := 1) (i := 2) (k := 22) (by decide) (by decide) (by decide)
theorem rf_8195 : ab_adr (EF l D cI old N0) 8195 = ab_adr (EC l D cI old N0) 4119 := adr_FC (j := 1) (i := 3) (k := 23) (by decide) (by decide) (by decide)
theorem rf_8196 : ab_adr (EF l D cI old N0) 8196 = ab_adr (EC l D cI old N0) 4120 := adr_FC (j := 1) (i := 4) (k := 24) (by decide) (by decide) (by decide)
theorem rf_12288 : ab_adr (EF l D cI old N0) 12288 = ab_adr (EC l D cI old N0) 4121 := adr_FC (j := 2) (i := 0) (k := 25) (by decide) (by decide) (by decide)
theorem rf_12289 : ab_adr (EF l D cI old N0) 12289 = ab_adr (EC l D cI old N0) 4122 := adr_FC (j := 2) (i := 1) (k := 26) (by decide) (by decide) (by decide)
theorem rf_12290 : ab_adr (EF l D cI old N0) 12290 = ab_adr (EC l D cI old N0) 4123 := adr_FC (j := 2) (i := 2) (k := 27) (by decide) (by decide) (by decide)
theorem rf_12291 : ab_adr (EF l D cI old N0) 12291 = ab_adr (EC l D cI old N0) 4124 := adr_FC (j := 2) (i := 3) (k := 28) (by decide) (by decide) (by decide)
theorem rf_12292 : ab_adr (EF l D cI old N0) 12292 = ab_adr (EC l D cI old N0) 4125 := adr_FC (j := 2) (i := 4) (k := 29) (by decide) (by decide) (by decide)
theorem rf_12293 : ab_adr (EF l D cI old N0) 12293 = ab_adr (EC l D cI old N0) 4126 := adr_FC (j := 2) (i := 5) (k := 30) (by decide) (by decide) (by decide)
theorem rf_12294 : ab_adr (EF l D cI old N0) 12294 = ab_adr (EC l D cI old N0) 4127 := adr_FC (j := 2) (i := 6) (k := 31) (by decide) (by decide) (by decide)
theorem rf_12295 : ab_adr (EF l D cI old N0) 12295 = ab_adr (EC l D cI old N0) 4128 := adr_FC (j := 2) (i := 7) (k := 32) (by decide) (by decide) (by decide)
theorem rf_12296 : ab_adr (EF l D cI old N0) 12296 = ab_adr (EC l D cI old N0) 4129 := adr_FC (j := 2) (i := 8) (k := 33) (by decide) (by decide) (by decide)
theorem rf_12297 : ab_adr (EF l D cI old N0) 12297 = ab_adr (EC l D cI old N0) 4130 := adr_FC (j := 2) (i := 9) (k := 34) (by decide) (by decide) (by decide)
theorem rf_16384 : ab_adr (EF l D cI old N0) 16384 = ab_adr (EC l D cI old N0) 4131 := adr_FC (j := 3) (i := 0) (k := 35) (by decide) (by decide) (by decide)
theorem rf_16385 : ab_adr (EF l D cI old N0) 16385 = ab_adr (EC l D cI old N0) 4132 := adr_FC (j := 3) (i := 1) (k := 36) (by decide) (by decide) (by decide)
theorem rf_16386 : ab_adr (EF l D cI old N0) 16386 = ab_adr (EC l D cI old N0) 4133 := adr_FC (j := 3) (i := 2) (k := 37) (by decide) (by decide) (by decide)
theorem rf_16387 : ab_adr (EF l D cI old N0) 16387 = ab_adr (EC l D cI old N0) 4134 := adr_FC (j := 3) (i := 3) (k := 38) (by decide) (by decide) (by decide)
theorem rf_16388 : ab_adr (EF l D cI old N0) 16388 = ab_adr (EC l D cI old N0) 4135 := adr_FC (j := 3) (i := 4) (k := 39) (by decide) (by decide) (by decide)
theorem rf_16389 : ab_adr (EF l D cI old N0) 16389 = ab_adr (EC l D cI old N0) 4136 := adr_FC (j := 3) (i := 5) (k := 40) (by decide) (by decide) (by decide)
theorem rf_16390 : ab_adr (EF l D cI old N0) 16390 = ab_adr (EC l D cI old N0) 4137 := adr_FC (j := 3) (i := 6) (k := 41) (by decide) (by decide) (by decide)
theorem rf_16391 : ab_adr (EF l D cI old N0) 16391 = ab_adr (EC l D cI old N0) 4138 := adr_FC (j := 3) (i := 7) (k := 42) (by decide) (by decide) (by decide)
theorem rf_16392 : ab_adr (EF l D cI old N0) 16392 = ab_adr (EC l D cI old N0) 4139 := adr_FC (j := 3) (i := 8) (k := 43) (by decide) (by decide) (by decide)
theorem mp_1 : t1_.map (ab_cell (EC l D cI old N0)) = (ar T0_ K0_ (nI 0) (nI 0)).map (ab_cell (EF l D cI old N0)) := by
  simp only [t1_, ar, List.map_cons, List.map_nil, ab_cell, ab_v, rf_4097, rf_4098, rf_4099, rf_4100, rf_4101, rf_4102, rf_4103, rf_4104, rf_4105, rf_4106, rf_4107, rf_4108, rf_4109, rf_4110, rf_4111, rf_4112, rf_4113, rf_4114, rf_4115, rf_8192, rf_12288]
  try rfl
theorem mp_2 : t2_.map (ab_cell (EC l D cI old N0)) = (te_ Z0_ Z0_ (nI 0) (nI 0) (nI 0) (nI 0) (nI 0) (nI 0) (nI 0)).map (ab_cell (EF l D cI old N0)) := by
  simp only [t2_, te_, List.map_cons, List.map_nil, ab_cell, ab_v, rf_8193, rf_8194, rf_8195, rf_8196]
  try rfl
theorem mp_3 : t3_.map (ab_cell (EC l D cI old N0)) = (pl Z0_ Z0_ Z0_ (nI 0)).map (ab_cell (EF l D cI old N0)) := by
  simp only [t3_, pl, List.map_cons, List.map_nil, ab_cell, ab_v, rf_12289, rf_12290, rf_12291, rf_12292, rf_12293, rf_12294, rf_12295, rf_12296, rf_12297]
  try rfl
theorem mp_4 : t4_.map (ab_cell (EC l D cI old N0)) = (la_ Z0_ Z0_ Z0_ Z0_ Z0_ Z0_ Z0_ st0_ cc0_).map (ab_cell (EF l D cI old N0)) := by
  simp only [t4_, la_, List.map_cons, List.map_nil, ab_cell, ab_v]
  try rfl
theorem seg_map {g f : AC → va_E} {t s : List AC} (hm : t.map g = s.map f) {i : Nat} {c : AC} (h : s[i]? = some c) : ∃ c0, t[i]? = some c0 ∧ g c0 = f c := by
  have h1 : (s.map f)[i]? = some (f c) := by rw [List.getElem?_map, h]; rfl
  rw [← hm, List.getElem?_map] at h1
  cases ht : t[i]? with
  | none => rw [ht] at h1; cases h1
  | some c0 => rw [ht] at h1; exact ⟨c0, rfl, Option.some.inj h1⟩
theorem mid_get {a b c : List AC} {i : Nat} (hi : i < b.length) : (a ++ (b ++ c))[a.length + i]? = b[i]? := by
  rw [List.getElem?_append_right (by omega), Nat.add_sub_cancel_left, List.getElem?_append_left hi]
def tl0_ : List AC := t1_ ++ (t2_ ++ (t3_ ++ t4_))
theorem R_switch {ol : List AC} {U : State} {H : Heap} (hR : ab_R (EC l D cI old N0) [ol, tl0_] U H) : ab_R (EF l D cI old N0) (hp ol (ar T0_ K0_ (nI 0) (nI 0)) (te_ Z0_ Z0_ (nI 0) (nI 0) (nI 0) (nI 0) (nI 0) (nI 0) (nI 0)) (pl Z0_ Z0_ Z0_ (nI 0)) (la_ Z0_ Z0_ Z0_ Z0_ Z0_ Z0_ Z0_ st0_ cc0_) [] []) U H := by
  obtain ⟨-, ⟨tl, g2, g3, g4⟩, -, g5, g6⟩ := hR
  have etl : tl0_ = tl := Option.some.inj g2
  have elen : tl.length = 44 := by rw [← etl]; rfl
  refine ⟨fun j n hn => ?_, ⟨[], rfl, ?_, fun _ => by
    have g9 := g4 rfl
    rw [elen] at g9
    exact g9⟩, rfl, fun r c h0 hg => ?_, fun r c h0 hg => ?_⟩
  · match j, hn with
    | 0, hn => cases hn; exact ⟨_, rfl, rfl⟩
    | 1, hn => cases hn; exact ⟨_, rfl, rfl⟩
    | 2, hn => cases hn; exact ⟨_, rfl, rfl⟩
    | 3, hn => cases hn; exact ⟨_, rfl, rfl⟩
    | 4, hn => cases hn; exact ⟨_, rfl, rfl⟩
    | j + 5, hn =>
      have h9 : ([20, 5, 10, 9, 0] : List Nat)[j + 5]? = some n := hn
      simp at h9
  · rw [elen] at g3
    exact g3
  · obtain ⟨s, q1, q2⟩ := ab_get_some hg
    obtain ⟨j, ej⟩ : ∃ j, r / 4096 = j + 1 := ⟨r / 4096 - 1, by omega⟩
    obtain ⟨i, ei⟩ : ∃ i, r % 4096 = i := ⟨_, rfl⟩
    have er : r = 4096 * (j + 1) + i := by omega
    have hi : i < 4096 := by omega
    rw [ej] at q1
    rw [ei] at q2
    have key : ∀ (off : Nat) (t s' : List AC), t.map (ab_cell (EC l D cI old N0)) = s'.map (ab_cell (EF l D cI old N0)) → (∀ i, i < t.length → tl0_[off + i]? = t[i]?) → s = s' → ab_off [20, 5, 10, 9, 0] j = off → off + t.length ≤ 44 → va_at D vwCl (ab_adr (EF l D cI old N0) r, ab_cell (EF l D cI old N0) c) H := by
      intro off t s' hm hg' es eo hl
      rw [es] at q2
      obtain ⟨c0, k1, k2⟩ := seg_map hm q2
      have hit : i < t.length := (List.getElem?_eq_some_iff.mp k1).1
      have ge : ab_get [ol, tl0_] (4096 + (off + i)) = some c0 := by
        unfold ab_get
        rw [show (4096 + (off + i)) / 4096 = 1 by omega, show (4096 + (off + i)) % 4096 = off + i by omega]
        show tl0_[off + i]? = some c0
        rw [hg' i hit, k1]
      have := g5 (4096 + (off + i)) c0 (by omega) ge
      rw [er, adr_FC (k := off + i) hi (by omega) (by omega), ← k2]
      exact this
    match j, q1 with
    | 0, q1 => exact key 0 t1_ (ar T0_ K0_ (nI 0) (nI 0)) mp_1 (fun i h => by rw [Nat.zero_add]; exact List.getElem?_append_left h) (Option.some.inj q1).symm rfl (by decide)
    | 1, q1 => exact key 20 t2_ (te_ Z0_ Z0_ (nI 0) (nI 0) (nI 0) (nI 0) (nI 0) (nI 0) (nI 0)) mp_2 (fun i h => mid_get (a := t1_) h) (Option.some.inj q1).symm rfl (by decide)
    | 2, q1 => exact key 25 t3_ (pl Z0_ Z0_ Z0_ (nI 0)) mp_3 (fun i h => mid_get (a := t1_ ++ t2_) h) (Option.some.inj q1).symm rfl (by decide)
    | 3, q1 => exact key 35 t4_ (la_ Z0_ Z0_ Z0_ Z0_ Z0_ Z0_ Z0_ st0_ cc0_) mp_4 (fun i h => (by have := mid_get (a := t1_ ++ (t2_ ++ t3_)) (c := []) h; rw [List.append_nil] at this; exact this)) (Option.some.inj q1).symm rfl (by decide)
    | 4, q1 =>
      cases q1
      simp at q2
    | 5, q1 =>
      cases q1
      simp at q2
    | j + 6, q1 => simp at q1
  · have hg' : ab_get [ol, tl0_] r = some c := by
      unfold ab_get at hg ⊢
      rw [h0] at hg ⊢
      exact hg
    obtain ⟨n, f, f1, f2, f3⟩ := g6 r c h0 hg'
    have ea : ab_adr (EF l D cI old N0) r = ab_adr (EC l D cI old N0) r := by
      unfold ab_adr
      rw [if_pos h0, if_pos h0]
    refine ⟨n, f, f1, ?_, ?_⟩
    · rw [ea]; exact f2
    · rw [ea]; exact f3
theorem SF_switch {U : State} (h : ab_SF (EC l D cI old N0) U) : ab_SF (EF l D cI old N0) U := by
  obtain ⟨h1, h2⟩ := h
  refine ⟨fun q hq => ?_, h2⟩
  have := h1 q hq
  have ea : ab_adr (EF l D cI old N0) q.2.2.2 = ab_adr (EC l D cI old N0) q.2.2.2 := by
    have h3 : q.2.2.2 / 4096 = 0 := by
      simp [ab_stF] at hq
      rcases hq with rfl | rfl <;> rfl
    unfold ab_adr
    rw [if_pos h3, if_pos h3]
  rw [ea]
  exact this
theorem lvs_switch : ab_lvs (EF l D cI old N0) [some (.ref 0), some (.ref 4096), some (.ref 16384), some (.ref 16385), some (.ref 16386), some (.ref 16387), some (.ref 16388), some (.ref 16389), some (.ref 16390), some (.ref 16391), some (.ref 16392), none, none, none, none] = ab_lvs (EC l D cI old N0) [some (.ref 0), some (.ref 4096), some (.ref 4131), some (.ref 4132), some (.ref 4133), some (.ref 4134), some (.ref 4135), some (.ref 4136), some (.ref 4137), some (.ref 4138), some (.ref 4139), none, none, none, none] := by
  show [(0, Value.ref (ab_adr (EF l D cI old N0) 0)), (1, .ref (ab_adr (EF l D cI old N0) 4096)), (2, .ref (ab_adr (EF l D cI old N0) 16384)), (3, .ref (ab_adr (EF l D cI old N0) 16385)), (4, .ref (ab_adr (EF l D cI old N0) 16386)), (5, .ref (ab_adr (EF l D cI old N0) 16387)), (6, .ref (ab_adr (EF l D cI old N0) 16388)), (7, .ref (ab_adr (EF l D cI old N0) 16389)), (8, .ref (ab_adr (EF l D cI old N0) 16390)), (9, .ref (ab_adr (EF l D cI old N0) 16391)), (10, .ref (ab_adr (EF l D cI old N0) 16392))] = _
  rw [rf_4096, rf_16384, rf_16385, rf_16386, rf_16387, rf_16388, rf_16389, rf_16390, rf_16391, rf_16392]
  rfl
theorem AP_switch {ol : List AC} {Q : AQ} {d mc ms : Nat} (k : AP (EF l D cI old N0) M_L_law d 87 [some (.ref 0), some (.ref 4096), some (.ref 16384), some (.ref 16385), some (.ref 16386), some (.ref 16387), some (.ref 16388), some (.ref 16389), some (.ref 16390), some (.ref 16391), some (.ref 16392), none, none, none, none] [] (hp ol (ar T0_ K0_ (nI 0) (nI 0)) (te_ Z0_ Z0_ (nI 0) (nI 0) (nI 0) (nI 0) (nI 0) (nI 0) (nI 0)) (pl Z0_ Z0_ Z0_ (nI 0)) (la_ Z0_ Z0_ Z0_ Z0_ Z0_ Z0_ Z0_ st0_ cc0_) [] []) Q mc ms) : AP (EC l D cI old N0) M_L_law d 87 [some (.ref 0), some (.ref 4096), some (.ref 4131), some (.ref 4132), some (.ref 4133), some (.ref 4134), some (.ref 4135), some (.ref 4136), some (.ref 4137), some (.ref 4138), some (.ref 4139), none, none, none, none] [] [ol, tl0_] Q mc ms := by
  intro p e R s m args below meth c H locs cells slots ls mcT msT C hR hS hl b1 b2 b3 b4
  obtain ⟨cx, cb, cml, cr, cown, cw, clk, cnm, cex, cK, cSF, cf, clo, cfi, cfj⟩ := C
  have hl' : lv_has ls (AM.maxL M_L_law) (ab_lvs (EF l D cI old N0) [some (.ref 0), some (.ref 4096), some (.ref 16384), some (.ref 16385), some (.ref 16386), some (.ref 16387), some (.ref 16388), some (.ref 16389), some (.ref 16390), some (.ref 16391), some (.ref 16392), none, none, none, none]) := by
    rw [lvs_switch]
    exact hl
  exact k p e R s m args below meth c H locs cells slots ls mcT msT ⟨cx, cb, cml, cr, cown, cw, clk, cnm, cex, cK, SF_switch cSF, cf, clo, cfi, cfj⟩ (R_switch hR) hS hl' b1 b2 b3 b4
end SW
