/-! LOADS and what would be -/
section LDS
variable {V S N B R A O st C z : Nat → Int32} {T K : Nat → Nat → Int32} {nv nc nr ne m : Nat}
theorem bl_one (h : RT T z nv nc) (w : WZ z nv nc nr ne) (q : LC V S N R st z nv nc) (hm1 : m ≤ 100) {pg ph pc : Nat → Int32} (h4 : ph 4 = nI 0) (t : List (Nat × (Nat → Int32))) : TRF T (F_4bestLoad_T (nI m) nv nc T pg ph) ∧ F_4bestLoad_ph (nI m) nv nc T pg ph 4 = nI 0 ∧ F_4bestLoad (nI m) 0 nv nc T pg ph pc = (L_Lloads_12 m nv nc nr t V S N R st C (nv + 1)).1 ∧ F_4bestLoad (nI m) 1 nv nc T pg ph pc = (L_Lloads_12 m nv nc nr t V S N R st C (nv + 1)).2.1 ∧ F_4bestLoad (nI m) 2 nv nc T pg ph pc = (L_Lloads_12 m nv nc nr t V S N R st C (nv + 1)).2.2.1 ∧ F_4bestLoad (nI m) 3 nv nc T pg ph pc = -1 ∧ F_4bestLoad (nI m) 4 nv nc T pg ph pc = -1 := by
  have hn4 := q.n4
  have hn2 := q.n2
  obtain ⟨b1, b2, b3, b4⟩ := e_best (m := m) h w (by omega) (fun _ => 0) (fun _ => 0) (fun k => pc (4 + k)) pg ph pc h4 (fun _ _ => rfl)
  have hga : ∀ c v, c < 4 → v < 12 → F_5layGains_ga m nv nc z (fun _ => 0) (12 * c + v) = oI ((fun c v => toO (Gr m nv nc z c v)) c v) := fun c v hc hv => (lay2 h w (by omega) (fun _ => 0) 4 c v hc hv).trans (g_1 h w (by omega) c v).2.2.2.2
  have hb : ∀ c v k, (fun c v => toO (Gr m nv nc z c v)) c v = some k → k ≤ 40 := fun c v k e => (g_1 h w (by omega) c v).1 k e
  have hk := out12 (nr := nr) (m := m) (V := V) (S := S) (N := N) (R := R) (st := st) (C := C) (nc := nc) (nv := nv) (t := t) (pi := fun _ => 0) (be := fun k => pc (4 + k)) hga hb (fun v _ => Gr_no (Or.inl (by omega))) (fun v _ => Gr_no (Or.inl (by omega))) (fun c v hv _ => Gr_no (Or.inr hv)) hn4 (fun c v hc hv => gain_eq w q hc hv) 12 (by omega)
  rw [show min 12 nv + 1 = nv + 1 by omega] at hk
  have e : sg0 (F_5layGains_ga m nv nc z (fun _ => 0)) (fun _ => 0) (fun k => pc (4 + k)) = rl (F_5layGains_ga m nv nc z (fun _ => 0)) 0 (sub0 (F_5layGains_ga m nv nc z (fun _ => 0))) (upd (fun _ => 0) 0 (-2), fun k => pc (4 + k), -1) 12 := dv_12
  rw [← e] at hk
  obtain ⟨k1, k2, k3, k4, k5⟩ := hk
  have an : ∀ k, k < 4 → F_4bestLoad (nI m) (k + 1) nv nc T pg ph pc = (sg0 (F_5layGains_ga m nv nc z (fun _ => 0)) (fun _ => 0) (fun k => pc (4 + k))).2.1 k := fun k hk => by
    unfold F_4bestLoad F_2answer
    rw [if_neg (by omega), show 1 * 4 + (k + 1 - 1) = 4 + k by omega]
    exact b3 k hk
  refine ⟨b1, b2, ?_, (an 0 (by omega)).trans k2, (an 1 (by omega)).trans k3, (an 2 (by omega)).trans k4, (an 3 (by omega)).trans k5⟩
  unfold F_4bestLoad F_2answer
  rw [if_pos rfl]
  exact b4.trans k1
theorem bl_inv (h : RT T z nv nc) (w : WZ z nv nc nr ne) (q : LC V S N R st z nv nc) (hm1 : m ≤ 100) {pg ph pc : Nat → Int32} {pm : Int32} (h4 : ph 4 = nI 0) : ∀ j : Nat, TRF T (BL (nI m) nv nc T pg ph pc pm j).1 ∧ (BL (nI m) nv nc T pg ph pc pm j).2.2.1 4 = nI 0
  | 0 => ⟨TRF.refl T, h4⟩
  | j + 1 => by
    obtain ⟨i1, i2⟩ := bl_inv h w q hm1 h4 j (pg := pg) (pc := pc) (pm := pm)
    obtain ⟨b1, b2, -⟩ := bl_one (i1.rt h w.nv.2 w.nc.2) w q (C := fun _ => 0) (pg := (BL (nI m) nv nc T pg ph pc pm j).2.1) (pc := (BL (nI m) nv nc T pg ph pc pm j).2.2.2.1) hm1 i2 []
    exact ⟨i1.trans b1, b2⟩
theorem ahead_ok {l : Launch} {D : va_G} {cI : ClassId} {old : Nat → Nat} {N0 n : Nat} (d x : Nat) {o0 : List AC} {X : List (Nat × (Nat → Int32))} {os sc : Int32} {tc tp : Nat → Int32} {tl_ tn trd tv tdg tf tla : Int32} {pg ph pc : Nat → Int32} {pm : Int32} (h : RT T z nv nc) (w : WZ z nv nc nr ne) (q : LZ V S N B R A O st C z nv nc nr ne) (hxx : x < 2147483648) (h4 : ph 4 = nI 0) (hX : X.length = n) (hlen : X.length + 200 ≤ 4096) :
    ∃ (T' : Nat → Nat → Int32) (pg' ph' pc' : Nat → Int32) (pm' : Int32) (t' : List (Nat × (Nat → Int32))), TRF T T' ∧ ph' 4 = nI 0 ∧ t'.length ≤ 186 ∧ CT (EM l D cI old N0 n) M_L_ahead (d + 10) [.ref 4096, .int (nI (x)), .ref 16384, .ref 16385, .ref 16386, .ref 16388, .ref 16389, .ref 16391, .ref 16392] (hp o0 (ar T K os sc) (te_ tc tp tl_ tn trd tv tdg tf tla) (pl pg ph pc pm) (la_ V S N B R A O st C) (xs_ X) []) (.inl (some (.int (nI (1))))) (hp o0 (ar T' K os sc) (te_ tc tp tl_ tn trd tv tdg tf tla) (pl pg' ph' pc' pm') (la_ V S N B R A O st C) (xs_ X) (xs_ t')) 186 3565 := by
  have hn4 := q.1.n4
  have hnv := w.nv.2
  have hnc := w.nc.2
  have hcc := q.cc
  generalize hm : 1 + x / 2 % 60 = m
  generalize hm2 : 1 + x / 2 ^ 7 / 2 % 100 = m2
  have hm2' : 0 < m2 ∧ m2 ≤ 100 := by omega
  have inv := la_inv (A := A) (C := C) (m := m) h w q.1 (by omega) 1000
  have rt1 := inv.2.2.rt h hnv hnc
  have tD := inv.2.2.trans (TRF_done rt1 w)
  have rtD := tD.rt h hnv hnc
  have bi := bl_inv (m := m2) (pg := pg) (pc := pc) (pm := pm) rtD w q.1 hm2'.2 h4
  have hb := fun j => bl_one (m := m2) (C := C) ((bi j).1.rt rtD hnv hnc) w q.1 hm2'.2 (pg := (BL (nI m2) nv nc (F_4doneIn_T nc (LA nv nc nr m T V S N R A st C 1000).2.2.2.2.2.2.2) pg ph pc pm j).2.1) (pc := (BL (nI m2) nv nc (F_4doneIn_T nc (LA nv nc nr m T V S N R A st C 1000).2.2.2.2.2.2.2) pg ph pc pm j).2.2.2.1) (bi j).2 (co_ (LA nv nc nr m T V S N R A st C 1000).2.1 (LA nv nc nr m T V S N R A st C 1000).2.2.1 (LA nv nc nr m T V S N R A st C 1000).2.2.2.1 (LA nv nc nr m T V S N R A st C 1000).2.2.2.2.1 (LA nv nc nr m T V S N R A st C 1000).2.2.2.2.2.1 (LA nv nc nr m T V S N R A st C 1000).2.2.2.2.2.2.1)
  have hl := ld12 (nc := nc) (nr := nr) (m := m2) (tq := co_ (LA nv nc nr m T V S N R A st C 1000).2.1 (LA nv nc nr m T V S N R A st C 1000).2.2.1 (LA nv nc nr m T V S N R A st C 1000).2.2.2.1 (LA nv nc nr m T V S N R A st C 1000).2.2.2.2.1 (LA nv nc nr m T V S N R A st C 1000).2.2.2.2.2.1 (LA nv nc nr m T V S N R A st C 1000).2.2.2.2.2.2.1) (vo := V) (ls := S) (ln := N) (cr := R) (st := st) (cc := C) hn4 (nv + 1)
  refine ⟨(BL (nI m2) nv nc (F_4doneIn_T nc (LA nv nc nr m T V S N R A st C 1000).2.2.2.2.2.2.2) pg ph pc pm 5).1, _, (BL (nI m2) nv nc (F_4doneIn_T nc (LA nv nc nr m T V S N R A st C 1000).2.2.2.2.2.2.2) pg ph pc pm 5).2.2.1, _, _, _, tD.trans (bi 5).1, (bi 5).2, ?_, ahead_ct (E := EM l D cI old N0 n) d x (mcL := 180) (msL := 3450) h w q rfl rfl hxx hm hm2 (s_Lloads (n := n) d m2 (ne := ne) ((hcc 0 (by omega)).trans w.nv.1) hn4 ((hcc 1 (by omega)).trans w.nc.1) q.1.n2 ((hcc 2 (by omega)).trans w.nr.1) q.r2 ((hcc 5 (by omega)).trans w.ne.1) q.e12 (q.1.hL w.lv) hm2'.1 hm2'.2 hX (by
    show X.length + 6 + 180 ≤ 4096
    omega) (fun j _ => TI_RT ((bi j).1.rt rtD hnv hnc) w) (hb 0).2.2.1 (hb 1).2.2.2.1 (hb 2).2.2.2.2.1 (hb 3).2.2.2.2.2.1 (hb 4).2.2.2.2.2.2)⟩
  refine Nat.le_trans hl ?_
  show 6 + 36 * (nv + 1) ≤ 186
  omega
end LDS
