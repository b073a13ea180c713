section TOLD2
variable {V S N B R A O st C z : Nat → Int32} {T K : Nat → Nat → Int32} {nv nc nr ne t : Nat} {os sc : Int32} {tc tp : Nat → Int32} {tl_ tn trd tv tdg tf tla : Int32} {pg ph pc : Nat → Int32} {pm : Int32}
theorem vn_k {v w : Nat} (h : w = 7 ∨ w = 8 ∨ w = 9 ∨ w = 10 ∨ w = 11) : F_5volumeNow v w z = if w = 7 then (L_5leavesWith_5 v (nI 1) z (lv z v)) else if w = 8 then (L_5leavesWith_5 v (nI 2) z (lv z v)) else if w = 9 then (L_5open_4 v z (lv z v)) else if w = 10 then (oI (nlO z v (lv z v))) else L_5scanned_4 v z (lv z v) := by
  unfold F_5volumeNow
  rcases h with rfl | rfl | rfl | rfl | rfl <;> rfl
/-- the law's arrays and the class's tables hold the same cells: the law sees nothing that is wrong -/
theorem told_ok {E : AE} (d x : Nat) {o0 u0 l0 : List AC} (h : RT T z nv nc) (w : WZ z nv nc nr ne) (q : LZ V S N B R A O st C z nv nc nr ne) (h3 : z 3 = nI t) (ht : t < 100000) (hx : x < 2147483648) : CT E M_L_told (d + 8) [.ref 4096, .int (nI (x)), .ref 16384, .ref 16385, .ref 16386, .ref 16387, .ref 16388, .ref 16389, .ref 16390, .ref 16391, .ref 16392] (hp o0 (ar T K os sc) (te_ tc tp tl_ tn trd tv tdg tf tla) (pl pg ph pc pm) (la_ V S N B R A O st C) u0 l0) (.inl (some (.int (nI (1))))) (hp o0 (ar T K os sc) (te_ tc tp tl_ tn trd tv tdg tf tla) (pl pg ph pc pm) (la_ V S N B R A O st C) u0 l0) 0 0 := by
  have hT := TI_RT h w
  have h4 := q.1.n4; have h2 := q.1.n2; have hr2 := q.r2; have h12 := q.e12
  have hc : ∀ k, k < 7 → C k = z k := q.cc
  have hc3 : C 3 = nI t := (hc 3 (by omega)).trans h3
  have hll : ∀ v, v < nv → lL V v = lv z v := fun v hv => lL_eq q.1 (by omega)
  have e61 : ∀ v, v < nv → L_Lvolumes_61 S N B C v (lL V v) = (L_5leavesWith_5 v (nI 1) z (lv z v), L_5leavesWith_5 v (nI 2) z (lv z v), L_5open_4 v z (lv z v), L_5scanned_4 v z (lv z v)) := fun v hv => by rw [hll v hv]; exact t_61 q (by omega) _ (q.1.l8 v hv)
  have ev : ∀ v i, v < nv → i < 12 → F_0volumeFact v i T = F_5volumeNow v i z := fun v i hv hi => e_volume h w hv hi
  have et : ∀ i, i < 14 → F_0total i nv nc T sc = F_5counted i nv nc z sc := fun i hi => e_total h w hi sc
  have ec : ∀ k i, k < nc → i < 6 → F_0cradleFact k i T = F_5cradleNow k i nv z := fun k i hk hi => e_cradle h w hk hi
  have es := t_sum w q nv (Nat.le_refl _)
  obtain ⟨s1, s2, s3, s4⟩ := t_share h w q
  have hm : x / 2 % (t + 1) < t + 1 := Nat.mod_lt _ (by omega)
  refine s_Ltold (nv := nv) (nc := nc) (nr := nr) (ne := ne) (t := t) d x hT h4 ((hc 0 (by omega)).trans w.nv.1) ((hc 5 (by omega)).trans w.ne.1) h12 hc3 ht hx (q.1.hL w.lv) (fun v hv => lt_lL h w q.1 hv)
    (fun v k hv hk => (t_leaf h q hv hk).1) (fun v k hv hk => (t_leaf h q hv hk).2.1) (fun v k hv hk => (t_leaf h q hv hk).2.2.1) (fun v k hv hk => (t_leaf h q hv hk).2.2.2.1) (fun v k hv hk => (t_leaf h q hv hk).2.2.2.2.1) (fun v k hv hk => (t_leaf h q hv hk).2.2.2.2.2)
    (fun v i hv hi => t_vol h w q.1 hv hi) (fun v hv => ?_) (fun v hv => ?_) (fun v hv => ?_) (fun v hv => ?_) (fun v hv => ?_) (fun v hv => ?_) ?_ ?_ ?_ ?_ ?_ ?_ s1 s2 s3 s4 ((hc 1 (by omega)).trans w.nc.1) h2 ((hc 2 (by omega)).trans w.nr.1) hr2
    (fun k hk => ?_) (fun k hk => ?_) (fun k hk => ?_) (fun k hk => ?_) (fun k hk => ?_) (fun k hk => ?_) (fun j hj => ?_) (fun j hj => ?_) (fun j hj => ?_) (fun j hj => ?_) ?_ ?_
  · rw [ev v 7 hv (by omega), e61 v hv, vn_k (by omega)]; rfl
  · rw [ev v 8 hv (by omega), e61 v hv, vn_k (by omega)]; rfl
  · rw [ev v 9 hv (by omega), e61 v hv, vn_k (by omega)]; rfl
  · rw [ev v 10 hv (by omega), nx_eq q.1 hv, vn_k (by omega)]; rfl
  · rw [ev v 11 hv (by omega), e61 v hv, vn_k (by omega)]; rfl
  · rw [e_place h _ _ ne (by omega), t_where q x t v ne h12]
  · rw [h.num 3 (by omega), h3]
    exact wi_in (Nat.zero_le _) (by omega) (by omega)
  · rw [et 6 (by omega), es]; rfl
  · rw [et 7 (by omega), es]; rfl
  · rw [et 8 (by omega), es]; rfl
  · rw [et 9 (by omega), es]; rfl
  · rw [et 10 (by omega), es]; rfl
  · rw [ec k 0 hk (by omega)]; exact (q.1.cra k 0 (by omega) (by omega)).symm
  · rw [ec k 1 hk (by omega)]; exact (q.1.cra k 1 (by omega) (by omega)).symm
  · rw [ec k 2 hk (by omega), on_eq q.1 w.pu (by omega)]; rfl
  · rw [ec k 3 hk (by omega)]; exact (q.1.cra k 2 (by omega) (by omega)).symm
  · rw [ec k 4 hk (by omega)]; exact (q.1.cra k 3 (by omega) (by omega)).symm
  · rw [ec k 5 hk (by omega), id_eq q.1 w.pu hk]; rfl
  · rw [h.car (j / 4) (j % 4) (by omega) (by omega), ← q.ca (j / 4) (j % 4) (by omega) (by omega), show 4 * (j / 4) + j % 4 = j by omega]
  · rw [h.ent (j / 5) (j % 5) (by omega) (by omega), ← q.lo (j / 5) (j % 5) (by omega) (by omega), show 5 * (j / 5) + j % 5 = j by omega]
  · rw [h.num (7 + j) (by omega)]; exact (q.1.se j hj).symm
  · rw [et j (by omega), hc j (by omega)]
    unfold F_5counted
    rw [if_neg (by omega), if_neg (by omega), if_neg (by omega), if_neg (by omega), if_neg (by omega), if_neg (by omega), if_neg (by omega), if_neg (by omega)]
  · rw [et 11 (by omega), hc 6 (by omega)]; rfl
  · rw [et 12 (by omega)]; exact t_free q.1 w nc (Nat.le_refl _)
end TOLD2
