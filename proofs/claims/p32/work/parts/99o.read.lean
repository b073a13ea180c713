/-! BARS: the text that the law writes is read to its end -/
/-- a year with its colon -/
def YC (te : Nat → Int32) (p y : Nat) : Prop := te p = nI 58 ∧ te (p + 1) = nI (48 + y / 1000) ∧ te (p + 2) = nI (48 + y / 100 % 10) ∧ te (p + 3) = nI (48 + y / 10 % 10) ∧ te (p + 4) = nI (48 + y % 10)
/-- a part without its comma -/
def PC (te : Nat → Int32) (p a b y : Nat) : Prop := te p = nI (48 + a) ∧ ((b ≤ a ∧ YC te (p + 1) y) ∨ (a < b ∧ te (p + 1) = nI 45 ∧ te (p + 2) = nI (48 + b) ∧ YC te (p + 3) y))
/-- the reference's reader, one entry's numbers -/
def R5 (c : Int32) (x y w sta : Int32) : Int32 × Int32 × Int32 × Int32 × Int32 := (F_5takes c (fun _ => x) (fun _ => y) (fun _ => w) 0 sta, F_5takes_sta c (fun _ => x) (fun _ => y) (fun _ => w) 0 sta, F_5takes_fr c (fun _ => x) 0 sta 0, F_5takes_to c (fun _ => x) (fun _ => y) 0 sta 0, F_5takes_un c (fun _ => w) 0 sta 0)
def SAME (n : Nat) (fr to un fr' to' un' : Nat → Int32) : Prop := ∀ e, e ≠ n → fr' e = fr e ∧ to' e = to e ∧ un' e = un e
theorem SAME.tr {n : Nat} {fr to un fr' to' un' fr2 to2 un2 : Nat → Int32} (h : SAME n fr to un fr' to' un') (g : SAME n fr' to' un' fr2 to2 un2) : SAME n fr to un fr2 to2 un2 := fun e he => ⟨(g e he).1.trans (h e he).1, (g e he).2.1.trans (h e he).2.1, (g e he).2.2.trans (h e he).2.2⟩
theorem rd_s {te fr to un : Nat → Int32} {g j n : Nat} {c x y w sta sta' x' y' w' : Int32} (hn : n < 10) (hc : te j = c) (hf : fr n = x) (ht : to n = y) (hu : un n = w) (hs : ¬ 10 ≤ sta.toNatClampNeg) (h : R5 c x y w sta = (nI 1, sta', x', y', w')) : ∃ fr' to' un' : Nat → Int32, W_5read_12 te (g + 1) j fr to un (nI n) sta = W_5read_12 te g (j + 1) fr' to' un' (nI n) sta' ∧ fr' n = x' ∧ to' n = y' ∧ un' n = w' ∧ SAME n fr to un fr' to' un' := by
  unfold R5 at h
  rw [Prod.mk.injEq, Prod.mk.injEq, Prod.mk.injEq, Prod.mk.injEq] at h
  obtain ⟨h1, h2, h3, h4, h5⟩ := h
  have en : (nI n).toNatClampNeg = n := nI_clamp (by omega)
  have e1 : F_5takes c fr to un (nI n) sta = nI 1 := by rw [tk_c, en, hf, ht, hu, h1]
  have e2 : F_5takes_sta c fr to un (nI n) sta = sta' := by rw [tk_s, en, hf, ht, hu, h2]
  have e3 : F_5takes_fr c fr (nI n) sta n = x' := by
    have := tk_fr c fr (nI n) sta
    rw [en, hf] at this
    rw [this, h3]
  have e4 : F_5takes_to c fr to (nI n) sta n = y' := by
    have := tk_to c fr to (nI n) sta
    rw [en, hf, ht] at this
    rw [this, h4]
  have e5 : F_5takes_un c un (nI n) sta n = w' := by
    have := tk_un c un (nI n) sta
    rw [en, hu] at this
    rw [this, h5]
  have e6 : F_5takes_en c (nI n) sta = nI n := by
    unfold F_5takes_en
    rw [if_neg hs]
    (repeat' split) <;> rfl
  refine ⟨F_5takes_fr c fr (nI n) sta, F_5takes_to c fr to (nI n) sta, F_5takes_un c un (nI n) sta, ?_, e3, e4, e5, fun e he => ⟨tk_fr_ne _ _ _ _ _ (by rw [en]; exact he), tk_to_ne _ _ _ _ _ _ (by rw [en]; exact he), tk_un_ne _ _ _ _ _ (by rw [en]; exact he)⟩⟩
  rw [W_5read_12, hc, e1, if_neg (show ¬ nI 1 = (0 : Int32) by decide), e2, e6]
theorem r5_0 (x y w : Int32) (a : Nat) (ha : a < 8) : R5 (nI (48 + a)) x y w (nI 0) = (nI 1, nI 1, nI a, -1, w) := by
  have k0 : (nI 0).toNatClampNeg = 0 := by decide
  have e1 : nI (48 + a) - nI 48 = nI a := by rw [pk_sub (by omega), show 48 + a - 48 = a by omega]
  have e2 : wi (nI a) (nI 0) (nI 9) = nI 1 := by
    have : ∀ a : Fin 8, wi (nI a.val) (nI 0) (nI 9) = nI 1 := by decide +kernel
    exact this ⟨a, ha⟩
  have e3 : F_5goesOn_sta (nI 1) (nI 1) (nI 0) = nI 1 := by decide
  unfold R5 F_5takes F_5takes_sta F_5takes_fr F_5takes_to F_5takes_un F_5takesFirst F_5takesFirst_sta F_5takesFirst_fr F_5takesFirst_to
  rw [k0]
  simp only [show ¬ 3 ≤ 0 by omega, if_false, if_true, e1, e2, e3, ite_self, upd_eq]
  rfl
theorem r5_1c : ∀ a : Fin 8, ∀ w : Fin 1, R5 (nI 58) (nI a.val) (-1) (nI w.val) (nI 1) = (nI 1, nI 6, nI a.val, -1, nI w.val) := by decide +kernel
theorem r5_un (c x y w w0 sta : Int32) (h6 : ¬ 6 ≤ sta.toNatClampNeg) {s' x' y' : Int32} (h : R5 c x y w0 sta = (nI 1, s', x', y', w0)) : R5 c x y w sta = (nI 1, s', x', y', w) := by
  unfold R5 at h ⊢
  rw [Prod.mk.injEq, Prod.mk.injEq, Prod.mk.injEq, Prod.mk.injEq] at h ⊢
  obtain ⟨h1, h2, h3, h4, h5⟩ := h
  refine ⟨?_, ?_, h3, h4, ?_⟩
  · rw [← h1]
    unfold F_5takes
    rw [if_neg h6, if_neg h6]
  · rw [← h2]
    unfold F_5takes_sta
    rw [if_neg h6, if_neg h6]
  · unfold F_5takes_un
    rw [if_neg h6]
    (repeat' split) <;> rfl
theorem r5_1d : ∀ a : Fin 8, R5 (nI 45) (nI a.val) (-1) (nI 0) (nI 1) = (nI 1, nI 3, nI a.val, -1, nI 0) := by decide +kernel
theorem r5_3 : ∀ a b : Fin 8, a.val < b.val → R5 (nI (48 + b.val)) (nI a.val) (-1) (nI 0) (nI 3) = (nI 1, nI 4, nI a.val, nI b.val, nI 0) := by decide +kernel
theorem r5_4 : ∀ a b : Fin 8, a.val < b.val → R5 (nI 58) (nI a.val) (nI b.val) (nI 0) (nI 4) = (nI 1, nI 6, nI a.val, nI b.val, nI 0) := by decide +kernel
theorem r5_y (c x y w x0 y0 sta : Int32) (h6 : 6 ≤ sta.toNatClampNeg) {s' w' : Int32} (h : R5 c x0 y0 w sta = (nI 1, s', x0, y0, w')) : R5 c x y w sta = (nI 1, s', x, y, w') := by
  unfold R5 at h ⊢
  rw [Prod.mk.injEq, Prod.mk.injEq, Prod.mk.injEq, Prod.mk.injEq] at h ⊢
  obtain ⟨h1, h2, h3, h4, h5⟩ := h
  have h3' : 3 ≤ sta.toNatClampNeg := by omega
  refine ⟨?_, ?_, ?_, ?_, h5⟩
  · rw [← h1]
    unfold F_5takes
    rw [if_pos h3', if_pos h6, if_pos h3', if_pos h6]
  · rw [← h2]
    unfold F_5takes_sta
    rw [if_pos h3', if_pos h6, if_pos h3', if_pos h6]
  · unfold F_5takes_fr
    rw [if_pos h3', if_pos h6]
    (repeat' split) <;> rfl
  · unfold F_5takes_to
    rw [if_pos h3', if_pos h6]
    (repeat' split) <;> rfl
theorem r5_6w (c x y w : Int32) {s' w' : Int32} (h : R5 c 0 0 0 (nI 6) = (nI 1, s', 0, 0, w')) : R5 c 0 0 w (nI 6) = (nI 1, s', 0, 0, w') := by
  have k6 : (nI 6).toNatClampNeg = 6 := by decide
  unfold R5 at h ⊢
  rw [Prod.mk.injEq, Prod.mk.injEq, Prod.mk.injEq, Prod.mk.injEq] at h ⊢
  obtain ⟨h1, h2, h3, h4, h5⟩ := h
  refine ⟨?_, ?_, h3, h4, ?_⟩
  · rw [← h1]; unfold F_5takes F_5takesYear; rw [k6]; rfl
  · rw [← h2]; unfold F_5takes_sta F_5takesYear_sta; rw [k6]; rfl
  · rw [← h5]
    unfold F_5takes_un F_5takesYear_un
    rw [k6]
    simp only [show 3 ≤ 6 by omega, show 6 ≤ 6 by omega, show ¬ 10 ≤ 6 by omega, if_true, if_false]
    rw [show Int32.toNatClampNeg 0 = 0 from rfl, upd_eq, upd_eq]
theorem r5_6 : ∀ k : Fin 2, R5 (nI (49 + k.val)) 0 0 0 (nI 6) = (nI 1, nI 7, 0, 0, nI (1 + k.val)) := by decide +kernel
theorem r5_7 : ∀ k : Fin 40, 18 ≤ k.val → k.val < 22 → R5 (nI (48 + k.val % 10)) 0 0 (nI (k.val / 10)) (nI 7) = (nI 1, nI 8, 0, 0, nI k.val) := by decide +kernel
theorem r5_8 : ∀ k : Fin 40, R5 (nI (48 + k.val % 10)) 0 0 (nI ((180 + k.val) / 10)) (nI 8) = (nI 1, nI 9, 0, 0, nI (180 + k.val)) := by decide +kernel
theorem r5_9 : ∀ k : Fin 400, R5 (nI (48 + k.val % 10)) 0 0 (nI ((1800 + k.val) / 10)) (nI 9) = (nI 1, nI 10, 0, 0, nI (1800 + k.val)) := by decide +kernel
/-- the year's digits -/
theorem rd_year {te fr to un : Nat → Int32} {g p n y : Nat} {x t : Int32} (hn : n < 10) (hf : fr n = x) (ht : to n = t) (hy : 1800 ≤ y ∧ y < 2200) (h1 : te p = nI (48 + y / 1000)) (h2 : te (p + 1) = nI (48 + y / 100 % 10)) (h3 : te (p + 2) = nI (48 + y / 10 % 10)) (h4 : te (p + 3) = nI (48 + y % 10)) : ∃ fr' to' un' : Nat → Int32, W_5read_12 te (g + 4) p fr to un (nI n) (nI 6) = W_5read_12 te g (p + 4) fr' to' un' (nI n) (nI 10) ∧ fr' n = x ∧ to' n = t ∧ un' n = nI y ∧ SAME n fr to un fr' to' un' := by
  have a1 := r5_6 ⟨y / 1000 - 1, by omega⟩
  rw [show 49 + (y / 1000 - 1) = 48 + y / 1000 by omega, show 1 + (y / 1000 - 1) = y / 1000 by omega] at a1
  have a2 := r5_7 ⟨y / 100, by omega⟩ (show 18 ≤ y / 100 by omega) (show y / 100 < 22 by omega)
  rw [show y / 100 / 10 = y / 1000 by omega] at a2
  have a3 := r5_8 ⟨y / 10 - 180, by omega⟩
  dsimp only at a3
  rw [show 180 + (y / 10 - 180) = y / 10 by omega, show y / 10 / 10 = y / 100 by omega, show (y / 10 - 180) % 10 = y / 10 % 10 by omega] at a3
  have a4 := r5_9 ⟨y - 1800, by omega⟩
  dsimp only at a4
  rw [show 1800 + (y - 1800) = y by omega, show (y - 1800) % 10 = y % 10 by omega] at a4
  obtain ⟨f1, t1, u1, b1, b2, b3, b4, b5⟩ := rd_s (g := g + 3) (te := te) (to := to) (un := un) (j := p) hn h1 hf ht rfl (by decide) (r5_y _ x t _ 0 0 _ (by decide) (r5_6w _ 0 0 (un n) a1))
  obtain ⟨f2, t2, u2, c1, c2, c3, c4, c5⟩ := rd_s (g := g + 2) (te := te) (to := t1) (un := u1) (j := p + 1) hn h2 b2 b3 b4 (by decide) (r5_y _ x t _ 0 0 _ (by decide) a2)
  obtain ⟨f3, t3, u3, d1, d2, d3, d4, d5⟩ := rd_s (g := g + 1) (te := te) (to := t2) (un := u2) (j := p + 2) hn h3 c2 c3 c4 (by decide) (r5_y _ x t _ 0 0 _ (by decide) a3)
  obtain ⟨f4, t4, u4, e1, e2, e3, e4, e5⟩ := rd_s (g := g) (te := te) (to := t3) (un := u3) (j := p + 3) hn h4 d2 d3 d4 (by decide) (r5_y _ x t _ 0 0 _ (by decide) a4)
  exact ⟨f4, t4, u4, b1.trans (c1.trans (d1.trans e1)), e2, e3, e4, ((b5.tr c5).tr d5).tr e5⟩
/-- one part -/
theorem rd_part {te fr to un : Nat → Int32} {g p n a b y : Nat} (hn : n < 10) (ha : a < 8) (hb : b < 8) (hy : 1800 ≤ y ∧ y < 2200) (hp1 : PC te p a b y) : ∃ fr' to' un' : Nat → Int32, W_5read_12 te (g + (if b ≤ a then 6 else 8)) p fr to un (nI n) (nI 0) = W_5read_12 te g (p + (if b ≤ a then 6 else 8)) fr' to' un' (nI n) (nI 10) ∧ fr' n = nI a ∧ to' n = (if b ≤ a then -1 else nI b) ∧ un' n = nI y ∧ SAME n fr to un fr' to' un' := by
  obtain ⟨h0, h1⟩ := hp1
  rcases h1 with ⟨hba, y0, y1, y2, y3, y4⟩ | ⟨hab, h2, h3, y0, y1, y2, y3, y4⟩
  · rw [if_pos hba, if_pos hba]
    obtain ⟨f1, t1, u1, b1, b2, b3, b4, b5⟩ := rd_s (g := g + 5) (te := te) (fr := fr) (to := to) (un := un) (j := p) hn h0 rfl rfl rfl (by decide) (r5_0 (fr n) (to n) (un n) a ha)
    obtain ⟨f2, t2, u2, c1, c2, c3, c4, c5⟩ := rd_s (g := g + 4) (te := te) (to := t1) (un := u1) (j := p + 1) hn y0 b2 b3 b4 (by decide) (r5_un _ _ _ (un n) (nI 0) _ (by decide) (r5_1c ⟨a, ha⟩ ⟨0, by omega⟩))
    obtain ⟨f3, t3, u3, d1, d2, d3, d4, d5⟩ := rd_year (g := g) (te := te) (fr := f2) (to := t2) (un := u2) (p := p + 2) hn c2 c3 hy y1 y2 y3 y4
    exact ⟨f3, t3, u3, b1.trans (c1.trans d1), d2, d3, d4, (b5.tr c5).tr d5⟩
  · rw [if_neg (by omega), if_neg (by omega)]
    obtain ⟨f1, t1, u1, b1, b2, b3, b4, b5⟩ := rd_s (g := g + 7) (te := te) (fr := fr) (to := to) (un := un) (j := p) hn h0 rfl rfl rfl (by decide) (r5_0 (fr n) (to n) (un n) a ha)
    obtain ⟨f2, t2, u2, c1, c2, c3, c4, c5⟩ := rd_s (g := g + 6) (te := te) (to := t1) (un := u1) (j := p + 1) hn h2 b2 b3 b4 (by decide) (r5_un _ _ _ (un n) (nI 0) _ (by decide) (r5_1d ⟨a, ha⟩))
    obtain ⟨f3, t3, u3, d1, d2, d3, d4, d5⟩ := rd_s (g := g + 5) (te := te) (to := t2) (un := u2) (j := p + 2) hn h3 c2 c3 c4 (by decide) (r5_un _ _ _ (un n) (nI 0) _ (by decide) (r5_3 ⟨a, ha⟩ ⟨b, hb⟩ hab))
    obtain ⟨f4, t4, u4, e1, e2, e3, e4, e5⟩ := rd_s (g := g + 4) (te := te) (to := t3) (un := u3) (j := p + 3) hn y0 d2 d3 d4 (by decide) (r5_un _ _ _ (un n) (nI 0) _ (by decide) (r5_4 ⟨a, ha⟩ ⟨b, hb⟩ hab))
    obtain ⟨f5, t5, u5, k1, k2, k3, k4, k5⟩ := rd_year (g := g) (te := te) (fr := f4) (to := t4) (un := u4) (p := p + 4) hn e2 e3 hy y1 y2 y3 y4
    exact ⟨f5, t5, u5, b1.trans (c1.trans (d1.trans (e1.trans k1))), k2, k3, k4, (((b5.tr c5).tr d5).tr e5).tr k5⟩
/-- a comma -/
theorem rd_comma {te fr to un : Nat → Int32} {g j n : Nat} (hn : n < 9) (hc : te j = nI 44) : W_5read_12 te (g + 1) j fr to un (nI n) (nI 10) = W_5read_12 te g (j + 1) fr to un (nI (n + 1)) (nI 0) := by
  have en : (nI n).toNatClampNeg = n := nI_clamp (by omega)
  have k10 : (nI 10).toNatClampNeg = 10 := by decide
  have e1 : F_5takes (nI 44) fr to un (nI n) (nI 10) = nI 1 := rfl
  have e2 : F_5takes_sta (nI 44) fr to un (nI n) (nI 10) = nI 0 := rfl
  have e3 : F_5takes_fr (nI 44) fr (nI n) (nI 10) = fr := rfl
  have e4 : F_5takes_to (nI 44) fr to (nI n) (nI 10) = to := rfl
  have e5 : F_5takes_un (nI 44) un (nI n) (nI 10) = un := rfl
  have e6 : F_5takes_en (nI 44) (nI n) (nI 10) = nI (n + 1) := by
    unfold F_5takes_en
    rw [k10, en, if_pos (by omega), if_pos (by omega), if_pos (by omega), if_pos rfl, nI_add]
  rw [W_5read_12, hc, e1, if_neg (show ¬ nI 1 = (0 : Int32) by decide), e2, e3, e4, e5, e6]
