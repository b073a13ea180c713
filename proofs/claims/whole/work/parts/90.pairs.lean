/-! PAIRS OF CALLS: what holds between the class's cells and the reference's from call to call -/
section PO
def IV (T K : Nat → Nat → Int32) (os sc : Int32) (tc : Nat → Int32) (tl_ : Int32) (ph pc z ro te be : Nat → Int32) (sv ln : Int32) (nv nc nr ne a b q : Nat) : Prop :=
  RT T z nv nc ∧ WZ z nv nc nr ne ∧ SR K ro a b ∧ os = nI a ∧ a < 6 ∧ sc = nI b ∧ b ≤ 6 ∧ sv = nI b ∧ tl_ = nI q ∧ ln = nI q ∧ q ≤ 60 ∧ (∀ k, k < q → tc k = te k ∧ ∃ c : Nat, c < 127 ∧ te k = nI c) ∧ ph 4 = nI 0 ∧ ∀ k, k < 4 → pc (4 + k) = be k
def INV (ol : List AC) (th : Int32) (ov : Nat → Int64) (h : AH) : Prop := ∃ (T K : Nat → Nat → Int32) (os sc : Int32) (tc tp : Nat → Int32) (tl_ tn trd tv tdg tf tla : Int32) (pg ph pc : Nat → Int32) (pm : Int32) (z sa ro te fr to un ga pi be : Nat → Int32) (bm en sta sv ln : Int32) (hh : Int64) (nv nc nr ne a b q : Nat),
  h = hp ol (ar T K os sc) (te_ tc tp tl_ tn trd tv tdg tf tla) (pl pg ph pc pm) (mo z sa ro te fr to un ga pi be bm en sta sv ln th hh) (ou ov) [] ∧ IV T K os sc tc tl_ ph pc z ro te be sv ln nv nc nr ne a b q
/-- both sides of one call: the law's method ends with k (0: an answer, in ov), the reference with b, told as thrown k -/
def PO (E : AE) (Ml M5 : AM) (al a5 : List Value) (ol A B C D : List AC) (ov : Nat → Int64) : Prop := ∃ (k b : Int32) (a1 t1 p1 : List AC) (ov1 : Nat → Int64) (h2 : AH) (mc ms : Nat), mc ≤ 1 ∧ ms ≤ 6 ∧ CT E Ml 12 al (hp ol A B C D (ou ov) []) (.inl (some (.int k))) (hp ol a1 t1 p1 D (ou ov1) []) mc ms ∧ CT E M5 12 a5 (hp ol a1 t1 p1 D (ou ov1) []) (.inl (some (.int b))) h2 0 0 ∧ INV ol k ov1 h2 ∧ (k = nI 0 → ov1 0 = b.toInt64)
variable {E : AE} {T K : Nat → Nat → Int32} {os sc : Int32} {tc tp : Nat → Int32} {tl_ tn trd tv tdg tf tla : Int32} {pg ph pc : Nat → Int32} {pm : Int32} {z sa ro te fr to un ga pi be : Nat → Int32} {bm en sta sv ln th : Int32} {hh : Int64} {ov : Nat → Int64} {nv nc nr ne a b q : Nat} {ol : List AC}
theorem inv_mk (hI : IV T K os sc tc tl_ ph pc z ro te be sv ln nv nc nr ne a b q) : INV ol th ov (hp ol (ar T K os sc) (te_ tc tp tl_ tn trd tv tdg tf tla) (pl pg ph pc pm) (mo z sa ro te fr to un ga pi be bm en sta sv ln th hh) (ou ov) []) :=
  ⟨T, K, os, sc, tc, tp, tl_, tn, trd, tv, tdg, tf, tla, pg, ph, pc, pm, z, sa, ro, te, fr, to, un, ga, pi, be, bm, en, sta, sv, ln, hh, nv, nc, nr, ne, a, b, q, rfl, hI⟩
theorem po_thr {Ml M5 : AM} {al a5 : List Value} {A B C D A' B' C' : List AC} {k r : Int32} {h2 : AH} (hk : k ≠ nI 0) (hW : CT E Ml 12 al (hp ol A B C D (ou ov) []) (.inl (some (.int k))) (hp ol A' B' C' D (ou ov) []) 1 6) (h5 : CT E M5 12 a5 (hp ol A' B' C' D (ou ov) []) (.inl (some (.int r))) h2 0 0) (hI : INV ol k ov h2) : PO E Ml M5 al a5 ol A B C D ov :=
  ⟨k, r, A', B', C', ov, h2, 1, 6, Nat.le_refl _, Nat.le_refl _, hW, h5, hI, fun e => absurd e hk⟩
theorem po_ok {Ml M5 : AM} {al a5 : List Value} {A B C D A' B' C' : List AC} {r r' : Int32} {h2 : AH} (hW : CT E Ml 12 al (hp ol A B C D (ou ov) []) (.inl (some (.int (nI 0)))) (hp ol A' B' C' D (ou (vp_updL ov 0 r.toInt64)) []) 0 0) (h5 : CT E M5 12 a5 (hp ol A' B' C' D (ou (vp_updL ov 0 r.toInt64)) []) (.inl (some (.int r'))) h2 0 0) (hI : INV ol (nI 0) (vp_updL ov 0 r.toInt64) h2) (e : r = r') : PO E Ml M5 al a5 ol A B C D ov :=
  ⟨nI 0, r', A', B', C', _, h2, 0, 0, by omega, by omega, hW, h5, hI, fun _ => by rw [← e]; unfold vp_updL; rfl⟩
theorem IV.tab (hI : IV T K os sc tc tl_ ph pc z ro te be sv ln nv nc nr ne a b q) {T' : Nat → Nat → Int32} (h : RT T' z nv nc) : IV T' K os sc tc tl_ ph pc z ro te be sv ln nv nc nr ne a b q := ⟨h, hI.2⟩
theorem IV.save (hI : IV T K os sc tc tl_ ph pc z ro te be sv ln nv nc nr ne a b q) {T' : Nat → Nat → Int32} {z' : Nat → Int32} {nv' nc' nr' ne' : Nat} (h : RT T' z' nv' nc') (w : WZ z' nv' nc' nr' ne') : IV T' (F_0save_K a b T K) (F_0save_os a b os) (F_0save_sc b sc) tc tl_ ph pc z' (svR z ro b) te be (nI (svN b)) ln nv' nc' nr' ne' (if 6 ≤ b then (a + 1) % 6 else a) (svN b) q := by
  obtain ⟨h0, w0, hS, hos, ha, hsc, hb, hsv, htl, hln, hq, hcd, h4, hbe⟩ := hI
  refine ⟨h, w, SR_save hS hb h0 w0, ?_, ?_, ?_, ?_, rfl, htl, hln, hq, hcd, h4, hbe⟩
  · unfold F_0save_os
    split
    · rfl
    · exact hos
  · split <;> omega
  · unfold F_0save_sc svN
    split
    · have : b = 6 := by omega
      subst this
      exact hsc
    · rw [if_neg (by omega), nI_add]
  · unfold svN
    split <;> omega
theorem wi_num {x : Int32} {l u : Nat} (hl : l ≤ u) (hu : u < 2147483648) (e : ¬ wi x (nI l) (nI u) = 0) : ∃ k : Nat, l ≤ k ∧ k ≤ u ∧ x = nI k := wi_nI hu hl e
end PO
