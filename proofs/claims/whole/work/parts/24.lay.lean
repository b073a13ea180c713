theorem i_nx (t : Nat) : nI 11 - nI (t + 1) + nI 1 = nI 11 - nI t := by
  rw [← nI_add]
  grind
theorem nI_v {t : Nat} (h : t ≤ 12) : QI 12 (nI 11 - nI t) := by
  by_cases h1 : t = 12
  · subst h1; exact Or.inl (by decide)
  · exact Or.inr ⟨11 - t, by omega, pk_sub (by omega)⟩
theorem nI_v11 {t : Nat} (h : t ≤ 12) : ¬ (nI 11 - nI (t + 1) = nI 11) := by
  intro e
  by_cases h1 : t < 11
  · rw [pk_sub (by omega), nI_eq (by omega) (by decide)] at e
    omega
  · obtain rfl | rfl : t = 11 ∨ t = 12 := by omega
    · exact absurd e (by decide)
    · exact absurd e (by decide)
/-- the search of the reference: what it keeps is the picks, the best picks, their sum -/
abbrev SG : Type := (Nat → Int32) × (Nat → Int32) × Int32
def dst (ga : Nat → Int32) (D : Nat) (sub : SG → SG) (t : Nat) (s : SG) : SG := if F_5canPick D ga (upd s.1 D (nI 11 - nI t)) = 0 then (upd s.1 D (nI 11 - nI t), s.2) else sub (upd s.1 D (nI 11 - nI t), s.2)
def dv (ga : Nat → Int32) (D : Nat) (sub : SG → SG) : Nat → SG → SG
  | 0, s => s
  | t + 1, s => dv ga D sub t (dst ga D sub t s)
def sub3 (ga : Nat → Int32) (s : SG) : SG := (s.1, F_5keepPicks_be ga s.1 s.2.1 s.2.2, F_5keepPicks_bm ga s.1 s.2.1 s.2.2)
def sub2 (ga : Nat → Int32) (s : SG) : SG := dv ga 3 (sub3 ga) 13 (upd s.1 3 (-2), s.2)
def sub1 (ga : Nat → Int32) (s : SG) : SG := dv ga 2 (sub2 ga) 13 (upd s.1 2 (-2), s.2)
def sub0 (ga : Nat → Int32) (s : SG) : SG := dv ga 1 (sub1 ga) 13 (upd s.1 1 (-2), s.2)
def sg0 (ga pi be : Nat → Int32) : SG := dv ga 0 (sub0 ga) 13 (upd pi 0 (-2), be, -1)
theorem dv_lo {ga : Nat → Int32} {D : Nat} {sub : SG → SG} (hs : ∀ s j, j ≤ D → (sub s).1 j = s.1 j) : ∀ (t : Nat) (s : SG) (j : Nat), j < D → (dv ga D sub t s).1 j = s.1 j
  | 0, s, j, _ => rfl
  | t + 1, s, j, h => by
    have h1 : (dst ga D sub t s).1 j = s.1 j := by
      unfold dst
      split
      · exact upd_ne (by omega)
      · rw [hs _ j (by omega)]; exact upd_ne (by omega)
    exact (dv_lo hs t _ j h).trans h1
theorem sub3_lo (ga : Nat → Int32) (s : SG) (j : Nat) (_ : j ≤ 3) : (sub3 ga s).1 j = s.1 j := rfl
theorem sub2_lo (ga : Nat → Int32) (s : SG) (j : Nat) (h : j ≤ 2) : (sub2 ga s).1 j = s.1 j := (dv_lo (sub3_lo ga) 13 _ j (by omega)).trans (upd_ne (by omega))
theorem sub1_lo (ga : Nat → Int32) (s : SG) (j : Nat) (h : j ≤ 1) : (sub1 ga s).1 j = s.1 j := (dv_lo (sub2_lo ga) 13 _ j (by omega)).trans (upd_ne (by omega))
theorem sub0_lo (ga : Nat → Int32) (s : SG) (j : Nat) (h : j ≤ 0) : (sub0 ga s).1 j = s.1 j := (dv_lo (sub1_lo ga) 13 _ j (by omega)).trans (upd_ne (by omega))
theorem g_X5_layBest_20_1 : ab_oks M_X5_layBest [(20, .iload_n 2, 1, 2, 0, 0, .null)] = true := by decide +kernel
theorem dc_X5_layBest_21 : decode (AM.bytes M_X5_layBest) 21 = .ok (.ifCond .lt 72, 3) := by decide +kernel
theorem g_X5_layBest_24_3 : ab_oks M_X5_layBest [(24, .aload_n 0, 1, 0, 0, 0, .null), (25, .getfield 34, 3, 5, 8, 944, .null), (28, .iload_n 2, 1, 2, 0, 0, .null)] = true := by decide +kernel
theorem ok_X5_layBest_29 : ab_ok M_X5_layBest (29, .iaload, 1, 0, 0, 0, .null) = true := by decide +kernel
theorem g_X5_layBest_30_1 : ab_oks M_X5_layBest [(30, .bipush 11, 2, 0, 0, 0, .int (nI (11)))] = true := by decide +kernel
theorem dc_X5_layBest_32 : decode (AM.bytes M_X5_layBest) 32 = .ok (.if_icmp .ne 9, 3) := by decide +kernel
theorem g_X5_layBest_35_2 : ab_oks M_X5_layBest [(35, .iinc 2 (-1), 3, 2, 0, 0, .int (-1)), (38, .goto (-18), 3, 20, 0, 0, .null)] = true := by decide +kernel
theorem g_X5_layBest_41_4 : ab_oks M_X5_layBest [(41, .aload_n 0, 1, 0, 0, 0, .null), (42, .getfield 34, 3, 5, 8, 944, .null), (45, .iload_n 2, 1, 2, 0, 0, .null), (46, .dup2, 1, 0, 0, 0, .null)] = true := by decide +kernel
theorem ok_X5_layBest_47 : ab_ok M_X5_layBest (47, .iaload, 1, 0, 0, 0, .null) = true := by decide +kernel
theorem g_X5_layBest_48_2 : ab_oks M_X5_layBest [(48, .iconst 1, 1, 0, 0, 0, .int (nI (1))), (49, .iadd, 1, 0, 0, 0, .null)] = true := by decide +kernel
theorem ok_X5_layBest_50 : ab_ok M_X5_layBest (50, .iastore, 1, 0, 0, 0, .null) = true := by decide +kernel
theorem g_X5_layBest_51_2 : ab_oks M_X5_layBest [(51, .aload_n 0, 1, 0, 0, 0, .null), (52, .iload_n 2, 1, 2, 0, 0, .null)] = true := by decide +kernel
theorem lk_5_219 : ab_lkV "LeafCradlesModel" 219 M_X5_canPick 1 [1303, 1305, 83, 97, 1306] = true := by decide +kernel
theorem dc_X5_layBest_53 : decode (AM.bytes M_X5_layBest) 53 = .ok (.invokevirtual 219, 3) := by decide +kernel
theorem dc_X5_layBest_56 : decode (AM.bytes M_X5_layBest) 56 = .ok (.ifCond .eq 15, 3) := by decide +kernel
theorem g_X5_layBest_71_2 : ab_oks M_X5_layBest [(71, .aload_n 0, 1, 0, 0, 0, .null), (72, .iload_n 2, 1, 2, 0, 0, .null)] = true := by decide +kernel
theorem dc_X5_layBest_73 : decode (AM.bytes M_X5_layBest) 73 = .ok (.invokevirtual 219, 3) := by decide +kernel
theorem dc_X5_layBest_76 : decode (AM.bytes M_X5_layBest) 76 = .ok (.ifCond .eq (-56), 3) := by decide +kernel
theorem g_X5_layBest_59_2 : ab_oks M_X5_layBest [(59, .iload_n 2, 1, 2, 0, 0, .null), (60, .iconst 3, 1, 0, 0, 0, .int (nI (3)))] = true := by decide +kernel
theorem dc_X5_layBest_61 : decode (AM.bytes M_X5_layBest) 61 = .ok (.if_icmp .ne 10, 3) := by decide +kernel
theorem g_X5_layBest_64_1 : ab_oks M_X5_layBest [(64, .aload_n 0, 1, 0, 0, 0, .null)] = true := by decide +kernel
theorem lk_5_222 : ab_lkV "LeafCradlesModel" 222 M_X5_keepPicks 0 [1307, 1309, 84, 97, 1310] = true := by decide +kernel
theorem dc_X5_layBest_65 : decode (AM.bytes M_X5_layBest) 65 = .ok (.invokevirtual 222, 3) := by decide +kernel
theorem g_X5_layBest_68_1 : ab_oks M_X5_layBest [(68, .goto (-48), 3, 20, 0, 0, .null)] = true := by decide +kernel
set_option maxRecDepth 100000 in
set_option maxHeartbeats 4000000 in
theorem lb3 {E : AE} {d : Nat} {o0 a0 t0 p0 u0 l0 : List AC} {z sa ro te fr to un ga : Nat → Int32} {en sta sv ln th : Int32} {hh : Int64} {o : AR0} {h' : AH} : ∀ (t : Nat) (p b : Nat → Int32) (q : Int32), t ≤ 13 → (∀ j, j < 3 → QI 12 (p j)) → p 3 = nI 11 - nI t → AR E M_X5_layBest (d + 5) 20 [some (.ref 16384), none, some (.int (nI (2)))] [] (hp o0 a0 t0 p0 (mo z sa ro te fr to un ga ((dv ga 3 (sub3 ga) t (p, b, q)).1) ((dv ga 3 (sub3 ga) t (p, b, q)).2.1) ((dv ga 3 (sub3 ga) t (p, b, q)).2.2) en sta sv ln th hh) u0 l0) o h' 0 0 → AR E M_X5_layBest (d + 5) 20 [some (.ref 16384), none, some (.int (nI (3)))] [] (hp o0 a0 t0 p0 (mo z sa ro te fr to un ga p b q en sta sv ln th hh) u0 l0) o h' 0 0 := by
  intro t
  induction t with
  | zero =>
    intro p b q _ hq hd hK
    refine AR.run g_X5_layBest_20_1 21 [some (.ref 16384), none, some (.int (nI (3)))] [.int (nI (3))] _ [] rfl trivial ?_
    refine AR.ltN (tgt := 93) (a := 3) dc_X5_layBest_21 (by decide) (by first | rfl | (simp only [nI_add, pk_mul]; first | done | rfl)) (by omega) (fun c21_1 => absurd c21_1 (fun q => q)) (fun c21_1 => ?_)
    refine AR.run g_X5_layBest_24_3 29 [some (.ref 16384), none, some (.int (nI (3)))] [.int (nI (3)), .ref 16393] _ [] rfl trivial ?_
    refine AR.ald (n := 0) (e := 3) ok_X5_layBest_29 (by first | rfl | (simp only [nI_add, pk_mul]; first | done | rfl)) rfl (by omega) (by first | decide | omega) ?_
    refine AR.top hd ?_
    refine AR.run g_X5_layBest_30_1 32 [some (.ref 16384), none, some (.int (nI (3)))] [.int (nI (11)), .int (nI (11))] _ [] rfl trivial ?_
    refine AR.ne2N (tgt := 41) (a := 11) (b := 11) dc_X5_layBest_32 (by decide) (by first | rfl | (simp only [nI_add, pk_mul]; first | done | rfl)) (by first | rfl | (simp only [nI_add, pk_mul]; first | done | rfl)) (by omega) (by omega) (fun c32_2 => absurd c32_2 (by omega)) (fun c32_2 => ?_)
    refine AR.run g_X5_layBest_35_2 20 [some (.ref 16384), none, some (.int ((nI (3)) + (-1)))] [] _ [] rfl trivial ?_
    exact AR.cast (L' := [some (.ref 16384), none, some (.int (nI (2)))]) (by first | rfl | (rw [nI_add]) | decide) rfl rfl hK
  | succ t ih =>
    intro p b q ht hq hd hK
    have hv := nI_v (t := t) (by omega)
    have hu : upd p 3 (nI 11 - nI t) 3 = nI 11 - nI t := upd_eq
    have hK2 : AR E M_X5_layBest (d + 5) 20 [some (.ref 16384), none, some (.int (nI (2)))] [] (hp o0 a0 t0 p0 (mo z sa ro te fr to un ga ((dv ga 3 (sub3 ga) t (dst ga 3 (sub3 ga) t (p, b, q))).1) ((dv ga 3 (sub3 ga) t (dst ga 3 (sub3 ga) t (p, b, q))).2.1) ((dv ga 3 (sub3 ga) t (dst ga 3 (sub3 ga) t (p, b, q))).2.2) en sta sv ln th hh) u0 l0) o h' 0 0 := hK
    refine AR.run g_X5_layBest_20_1 21 [some (.ref 16384), none, some (.int (nI (3)))] [.int (nI (3))] _ [] rfl trivial ?_
    refine AR.ltN (tgt := 93) (a := 3) dc_X5_layBest_21 (by decide) (by first | rfl | (simp only [nI_add, pk_mul]; first | done | rfl)) (by omega) (fun c21_101 => absurd c21_101 (fun q => q)) (fun c21_101 => ?_)
    refine AR.run g_X5_layBest_24_3 29 [some (.ref 16384), none, some (.int (nI (3)))] [.int (nI (3)), .ref 16393] _ [] rfl trivial ?_
    refine AR.ald (n := 0) (e := 3) ok_X5_layBest_29 (by first | rfl | (simp only [nI_add, pk_mul]; first | done | rfl)) rfl (by omega) (by first | decide | omega) ?_
    refine AR.top hd ?_
    refine AR.run g_X5_layBest_30_1 32 [some (.ref 16384), none, some (.int (nI (3)))] [.int (nI (11)), .int ((nI 11 - nI (t + 1)))] _ [] rfl trivial ?_
    refine AR.ne2 (tgt := 41) dc_X5_layBest_32 (by decide) (fun c32_102 => ?_) (fun c32_102 => absurd c32_102 (nI_v11 (by omega)))
    refine AR.run g_X5_layBest_41_4 47 [some (.ref 16384), none, some (.int (nI (3)))] [.int (nI (3)), .ref 16393, .int (nI (3)), .ref 16393] _ [] rfl trivial ?_
    refine AR.ald (n := 0) (e := 3) ok_X5_layBest_47 (by first | rfl | (simp only [nI_add, pk_mul]; first | done | rfl)) rfl (by omega) (by first | decide | omega) ?_
    refine AR.top hd ?_
    refine AR.run g_X5_layBest_48_2 50 [some (.ref 16384), none, some (.int (nI (3)))] [.int ((nI 11 - nI (t + 1)) + (nI (1))), .int (nI (3)), .ref 16393] _ [] rfl trivial ?_
    refine AR.ast (n := 0) (e := 3) (h1 := (hp o0 a0 t0 p0 (mo z sa ro te fr to un ga (upd p 3 ((nI 11 - nI (t + 1)) + (nI (1)))) b q en sta sv ln th hh) u0 l0)) ok_X5_layBest_50 (by first | rfl | (simp only [nI_add, pk_mul]; first | done | rfl)) rfl rfl (by omega) (by decide) rfl ?_
    refine AR.cast (L' := [some (.ref 16384), none, some (.int (nI (3)))]) rfl rfl (by rw [i_nx]) ?_
    refine AR.run g_X5_layBest_51_2 53 [some (.ref 16384), none, some (.int (nI (3)))] [.int (nI (3)), .ref 16384] _ [] rfl trivial ?_
    refine AR.callV1 (16384) [.int (nI (3))] [] lk_5_219 dc_X5_layBest_53 rfl rfl (s_5canPick _ 3 (by omega) (by rw [hu]; exact hv)) (by first | rfl | (simp only [nI_add, pk_mul]; first | done | rfl)) rfl ?_
    refine AR.eq (tgt := 71) dc_X5_layBest_56 (by decide) (fun c56_103 => ?_) (fun c56_103 => ?_)
    · refine AR.run g_X5_layBest_71_2 73 [some (.ref 16384), none, some (.int (nI (3)))] [.int (nI (3)), .ref 16384] _ [] rfl trivial ?_
      refine AR.callV1 (16384) [.int (nI (3))] [] lk_5_219 dc_X5_layBest_73 rfl rfl (s_5canPick _ 3 (by omega) (by rw [hu]; exact hv)) (by first | rfl | (simp only [nI_add, pk_mul]; first | done | rfl)) rfl ?_
      refine AR.eq (tgt := 20) dc_X5_layBest_76 (by decide) (fun c76_104 => ?_) (fun c76_104 => absurd c76_104 (fun q => q c56_103))
      have hno : dst ga 3 (sub3 ga) t (p, b, q) = (upd p 3 (nI 11 - nI t), b, q) := if_pos (by assumption)
      rw [hno] at hK2
      exact ih (upd p 3 (nI 11 - nI t)) b q (by omega) (fun j hj => by rw [upd_ne (by omega)]; exact hq j hj) hu hK2
    · have hP4 : ∀ j, j < 4 → QI 12 (upd p 3 (nI 11 - nI t) j) := fun j hj => by by_cases hj2 : j = 3; (rw [hj2, hu]; exact hv); (rw [upd_ne hj2]; exact hq j (by omega))
      have hsub : dst ga 3 (sub3 ga) t (p, b, q) = sub3 ga (upd p 3 (nI 11 - nI t), b, q) := if_neg (by assumption)
      refine AR.run g_X5_layBest_59_2 61 [some (.ref 16384), none, some (.int (nI (3)))] [.int (nI (3)), .int (nI (3))] _ [] rfl trivial ?_
      refine AR.ne2N (tgt := 71) (a := 3) (b := 3) dc_X5_layBest_61 (by decide) (by first | rfl | (simp only [nI_add, pk_mul]; first | done | rfl)) (by first | rfl | (simp only [nI_add, pk_mul]; first | done | rfl)) (by omega) (by omega) (fun c61_105 => absurd c61_105 (by omega)) (fun c61_105 => ?_)
      refine AR.run g_X5_layBest_64_1 65 [some (.ref 16384), none, some (.int (nI (3)))] [.ref 16384] _ [] rfl trivial ?_
      refine AR.callV0 (16384) [] [] lk_5_222 dc_X5_layBest_65 rfl rfl (s_5keepPicks _  (by assumption)) (by first | rfl | (simp only [nI_add, pk_mul]; first | done | rfl)) rfl ?_
      refine AR.run g_X5_layBest_68_1 20 [some (.ref 16384), none, some (.int (nI (3)))] [] _ [] rfl trivial ?_
      rw [hsub] at hK2
      exact ih (upd p 3 (nI 11 - nI t)) (F_5keepPicks_be ga (upd p 3 (nI 11 - nI t)) b q) (F_5keepPicks_bm ga (upd p 3 (nI 11 - nI t)) b q) (by omega) (fun j hj => by rw [upd_ne (by omega)]; exact hq j hj) hu hK2
theorem g_X5_layBest_79_5 : ab_oks M_X5_layBest [(79, .iinc 2 1, 3, 2, 0, 0, .int (nI (1))), (82, .aload_n 0, 1, 0, 0, 0, .null), (83, .getfield 34, 3, 5, 8, 944, .null), (86, .iload_n 2, 1, 2, 0, 0, .null), (87, .bipush (-2), 2, 0, 0, 0, .int (-2))] = true := by decide +kernel
theorem ok_X5_layBest_89 : ab_ok M_X5_layBest (89, .iastore, 1, 0, 0, 0, .null) = true := by decide +kernel
theorem g_X5_layBest_90_1 : ab_oks M_X5_layBest [(90, .goto (-70), 3, 20, 0, 0, .null)] = true := by decide +kernel
set_option maxRecDepth 100000 in
set_option maxHeartbeats 4000000 in
theorem lb2 {E : AE} {d : Nat} {o0 a0 t0 p0 u0 l0 : List AC} {z sa ro te fr to un ga : Nat → Int32} {en sta sv ln th : Int32} {hh : Int64} {o : AR0} {h' : AH} : ∀ (t : Nat) (p b : Nat → Int32) (q : Int32), t ≤ 13 → (∀ j, j < 2 → QI 12 (p j)) → p 2 = nI 11 - nI t → AR E M_X5_layBest (d + 5) 20 [some (.ref 16384), none, some (.int (nI (1)))] [] (hp o0 a0 t0 p0 (mo z sa ro te fr to un ga ((dv ga 2 (sub2 ga) t (p, b, q)).1) ((dv ga 2 (sub2 ga) t (p, b, q)).2.1) ((dv ga 2 (sub2 ga) t (p, b, q)).2.2) en sta sv ln th hh) u0 l0) o h' 0 0 → AR E M_X5_layBest (d + 5) 20 [some (.ref 16384), none, some (.int (nI (2)))] [] (hp o0 a0 t0 p0 (mo z sa ro te fr to un ga p b q en sta sv ln th hh) u0 l0) o h' 0 0 := by
  intro t
  induction t with
  | zero =>
    intro p b q _ hq hd hK
    refine AR.run g_X5_layBest_20_1 21 [some (.ref 16384), none, some (.int (nI (2)))] [.int (nI (2))] _ [] rfl trivial ?_
    refine AR.ltN (tgt := 93) (a := 2) dc_X5_layBest_21 (by decide) (by first | rfl | (simp only [nI_add, pk_mul]; first | done | rfl)) (by omega) (fun c21_1 => absurd c21_1 (fun q => q)) (fun c21_1 => ?_)
    refine AR.run g_X5_layBest_24_3 29 [some (.ref 16384), none, some (.int (nI (2)))] [.int (nI (2)), .ref 16393] _ [] rfl trivial ?_
    refine AR.ald (n := 0) (e := 2) ok_X5_layBest_29 (by first | rfl | (simp only [nI_add, pk_mul]; first | done | rfl)) rfl (by omega) (by first | decide | omega) ?_
    refine AR.top hd ?_
    refine AR.run g_X5_layBest_30_1 32 [some (.ref 16384), none, some (.int (nI (2)))] [.int (nI (11)), .int (nI (11))] _ [] rfl trivial ?_
    refine AR.ne2N (tgt := 41) (a := 11) (b := 11) dc_X5_layBest_32 (by decide) (by first | rfl | (simp only [nI_add, pk_mul]; first | done | rfl)) (by first | rfl | (simp only [nI_add, pk_mul]; first | done | rfl)) (by omega) (by omega) (fun c32_2 => absurd c32_2 (by omega)) (fun c32_2 => ?_)
    refine AR.run g_X5_layBest_35_2 20 [some (.ref 16384), none, some (.int ((nI (2)) + (-1)))] [] _ [] rfl trivial ?_
    exact AR.cast (L' := [some (.ref 16384), none, some (.int (nI (1)))]) (by first | rfl | (rw [nI_add]) | decide) rfl rfl hK
  | succ t ih =>
    intro p b q ht hq hd hK
    have hv := nI_v (t := t) (by omega)
    have hu : upd p 2 (nI 11 - nI t) 2 = nI 11 - nI t := upd_eq
    have hK2 : AR E M_X5_layBest (d + 5) 20 [some (.ref 16384), none, some (.int (nI (1)))] [] (hp o0 a0 t0 p0 (mo z sa ro te fr to un ga ((dv ga 2 (sub2 ga) t (dst ga 2 (sub2 ga) t (p, b, q))).1) ((dv ga 2 (sub2 ga) t (dst ga 2 (sub2 ga) t (p, b, q))).2.1) ((dv ga 2 (sub2 ga) t (dst ga 2 (sub2 ga) t (p, b, q))).2.2) en sta sv ln th hh) u0 l0) o h' 0 0 := hK
    refine AR.run g_X5_layBest_20_1 21 [some (.ref 16384), none, some (.int (nI (2)))] [.int (nI (2))] _ [] rfl trivial ?_
    refine AR.ltN (tgt := 93) (a := 2) dc_X5_layBest_21 (by decide) (by first | rfl | (simp only [nI_add, pk_mul]; first | done | rfl)) (by omega) (fun c21_101 => absurd c21_101 (fun q => q)) (fun c21_101 => ?_)
    refine AR.run g_X5_layBest_24_3 29 [some (.ref 16384), none, some (.int (nI (2)))] [.int (nI (2)), .ref 16393] _ [] rfl trivial ?_
    refine AR.ald (n := 0) (e := 2) ok_X5_layBest_29 (by first | rfl | (simp only [nI_add, pk_mul]; first | done | rfl)) rfl (by omega) (by first | decide | omega) ?_
    refine AR.top hd ?_
    refine AR.run g_X5_layBest_30_1 32 [some (.ref 16384), none, some (.int (nI (2)))] [.int (nI (11)), .int ((nI 11 - nI (t + 1)))] _ [] rfl trivial ?_
    refine AR.ne2 (tgt := 41) dc_X5_layBest_32 (by decide) (fun c32_102 => ?_) (fun c32_102 => absurd c32_102 (nI_v11 (by omega)))
    refine AR.run g_X5_layBest_41_4 47 [some (.ref 16384), none, some (.int (nI (2)))] [.int (nI (2)), .ref 16393, .int (nI (2)), .ref 16393] _ [] rfl trivial ?_
    refine AR.ald (n := 0) (e := 2) ok_X5_layBest_47 (by first | rfl | (simp only [nI_add, pk_mul]; first | done | rfl)) rfl (by omega) (by first | decide | omega) ?_
    refine AR.top hd ?_
    refine AR.run g_X5_layBest_48_2 50 [some (.ref 16384), none, some (.int (nI (2)))] [.int ((nI 11 - nI (t + 1)) + (nI (1))), .int (nI (2)), .ref 16393] _ [] rfl trivial ?_
    refine AR.ast (n := 0) (e := 2) (h1 := (hp o0 a0 t0 p0 (mo z sa ro te fr to un ga (upd p 2 ((nI 11 - nI (t + 1)) + (nI (1)))) b q en sta sv ln th hh) u0 l0)) ok_X5_layBest_50 (by first | rfl | (simp only [nI_add, pk_mul]; first | done | rfl)) rfl rfl (by omega) (by decide) rfl ?_
    refine AR.cast (L' := [some (.ref 16384), none, some (.int (nI (2)))]) rfl rfl (by rw [i_nx]) ?_
    refine AR.run g_X5_layBest_51_2 53 [some (.ref 16384), none, some (.int (nI (2)))] [.int (nI (2)), .ref 16384] _ [] rfl trivial ?_
    refine AR.callV1 (16384) [.int (nI (2))] [] lk_5_219 dc_X5_layBest_53 rfl rfl (s_5canPick _ 2 (by omega) (by rw [hu]; exact hv)) (by first | rfl | (simp only [nI_add, pk_mul]; first | done | rfl)) rfl ?_
    refine AR.eq (tgt := 71) dc_X5_layBest_56 (by decide) (fun c56_103 => ?_) (fun c56_103 => ?_)
    · refine AR.run g_X5_layBest_71_2 73 [some (.ref 16384), none, some (.int (nI (2)))] [.int (nI (2)), .ref 16384] _ [] rfl trivial ?_
      refine AR.callV1 (16384) [.int (nI (2))] [] lk_5_219 dc_X5_layBest_73 rfl rfl (s_5canPick _ 2 (by omega) (by rw [hu]; exact hv)) (by first | rfl | (simp only [nI_add, pk_mul]; first | done | rfl)) rfl ?_
      refine AR.eq (tgt := 20) dc_X5_layBest_76 (by decide) (fun c76_104 => ?_) (fun c76_104 => absurd c76_104 (fun q => q c56_103))
      have hno : dst ga 2 (sub2 ga) t (p, b, q) = (upd p 2 (nI 11 - nI t), b, q) := if_pos (by assumption)
      rw [hno] at hK2
      exact ih (upd p 2 (nI 11 - nI t)) b q (by omega) (fun j hj => by rw [upd_ne (by omega)]; exact hq j hj) hu hK2
    · have hsub : dst ga 2 (sub2 ga) t (p, b, q) = sub2 ga (upd p 2 (nI 11 - nI t), b, q) := if_neg (by assumption)
      refine AR.run g_X5_layBest_59_2 61 [some (.ref 16384), none, some (.int (nI (2)))] [.int (nI (3)), .int (nI (2))] _ [] rfl trivial ?_
      refine AR.ne2N (tgt := 71) (a := 2) (b := 3) dc_X5_layBest_61 (by decide) (by first | rfl | (simp only [nI_add, pk_mul]; first | done | rfl)) (by first | rfl | (simp only [nI_add, pk_mul]; first | done | rfl)) (by omega) (by omega) (fun c61_105 => ?_) (fun c61_105 => absurd c61_105 (by omega))
      refine AR.run g_X5_layBest_71_2 73 [some (.ref 16384), none, some (.int (nI (2)))] [.int (nI (2)), .ref 16384] _ [] rfl trivial ?_
      refine AR.callV1 (16384) [.int (nI (2))] [] lk_5_219 dc_X5_layBest_73 rfl rfl (s_5canPick _ 2 (by omega) (by rw [hu]; exact hv)) (by first | rfl | (simp only [nI_add, pk_mul]; first | done | rfl)) rfl ?_
      refine AR.eq (tgt := 20) dc_X5_layBest_76 (by decide) (fun c76_106 => absurd c76_106 c56_103) (fun c76_106 => ?_)
      refine AR.run g_X5_layBest_79_5 89 [some (.ref 16384), none, some (.int ((nI (2)) + (nI (1))))] [.int (-2), .int ((nI (2)) + (nI (1))), .ref 16393] _ [] rfl trivial ?_
      refine AR.ast (n := 0) (e := (2 + 1)) (h1 := (hp o0 a0 t0 p0 (mo z sa ro te fr to un ga (upd (upd p 2 (nI 11 - nI t)) (2 + 1) (-2)) b q en sta sv ln th hh) u0 l0)) ok_X5_layBest_89 (by first | rfl | (simp only [nI_add, pk_mul]; first | done | rfl)) rfl rfl (by omega) (by decide) rfl ?_
      refine AR.run g_X5_layBest_90_1 20 [some (.ref 16384), none, some (.int ((nI (2)) + (nI (1))))] [] _ [] rfl trivial ?_
      rw [hsub] at hK2
      refine AR.cast (L' := [some (.ref 16384), none, some (.int (nI (3)))]) (by first | rfl | (rw [nI_add])) rfl rfl ?_
      refine lb3 13 (upd (upd p 2 (nI 11 - nI t)) (2 + 1) (-2)) b q (by omega) (fun j hj => ?_) (by rw [upd_eq]; decide) ?_
      · rw [upd_ne (by omega)]
        by_cases hj2 : j = 2
        · rw [hj2, hu]; exact hv
        · rw [upd_ne hj2]; exact hq j (by omega)
      · refine ih _ _ _ (by omega) (fun j hj => ?_) ?_ hK2
        · rw [show (dv ga 3 (sub3 ga) 13 (upd (upd p 2 (nI 11 - nI t)) 3 (-2), b, q)).1 j = _ from (sub2_lo ga (upd p 2 (nI 11 - nI t), b, q) j (by omega))]; show QI 12 (upd p 2 (nI 11 - nI t) j); rw [upd_ne (by omega)]; exact hq j hj
        · exact (sub2_lo ga (upd p 2 (nI 11 - nI t), b, q) 2 (by omega)).trans hu
set_option maxRecDepth 100000 in
set_option maxHeartbeats 4000000 in
theorem lb1 {E : AE} {d : Nat} {o0 a0 t0 p0 u0 l0 : List AC} {z sa ro te fr to un ga : Nat → Int32} {en sta sv ln th : Int32} {hh : Int64} {o : AR0} {h' : AH} : ∀ (t : Nat) (p b : Nat → Int32) (q : Int32), t ≤ 13 → (∀ j, j < 1 → QI 12 (p j)) → p 1 = nI 11 - nI t → AR E M_X5_layBest (d + 5) 20 [some (.ref 16384), none, some (.int (nI (0)))] [] (hp o0 a0 t0 p0 (mo z sa ro te fr to un ga ((dv ga 1 (sub1 ga) t (p, b, q)).1) ((dv ga 1 (sub1 ga) t (p, b, q)).2.1) ((dv ga 1 (sub1 ga) t (p, b, q)).2.2) en sta sv ln th hh) u0 l0) o h' 0 0 → AR E M_X5_layBest (d + 5) 20 [some (.ref 16384), none, some (.int (nI (1)))] [] (hp o0 a0 t0 p0 (mo z sa ro te fr to un ga p b q en sta sv ln th hh) u0 l0) o h' 0 0 := by
  intro t
  induction t with
  | zero =>
    intro p b q _ hq hd hK
    refine AR.run g_X5_layBest_20_1 21 [some (.ref 16384), none, some (.int (nI (1)))] [.int (nI (1))] _ [] rfl trivial ?_
    refine AR.ltN (tgt := 93) (a := 1) dc_X5_layBest_21 (by decide) (by first | rfl | (simp only [nI_add, pk_mul]; first | done | rfl)) (by omega) (fun c21_1 => absurd c21_1 (fun q => q)) (fun c21_1 => ?_)
    refine AR.run g_X5_layBest_24_3 29 [some (.ref 16384), none, some (.int (nI (1)))] [.int (nI (1)), .ref 16393] _ [] rfl trivial ?_
    refine AR.ald (n := 0) (e := 1) ok_X5_layBest_29 (by first | rfl | (simp only [nI_add, pk_mul]; first | done | rfl)) rfl (by omega) (by first | decide | omega) ?_
    refine AR.top hd ?_
    refine AR.run g_X5_layBest_30_1 32 [some (.ref 16384), none, some (.int (nI (1)))] [.int (nI (11)), .int (nI (11))] _ [] rfl trivial ?_
    refine AR.ne2N (tgt := 41) (a := 11) (b := 11) dc_X5_layBest_32 (by decide) (by first | rfl | (simp only [nI_add, pk_mul]; first | done | rfl)) (by first | rfl | (simp only [nI_add, pk_mul]; first | done | rfl)) (by omega) (by omega) (fun c32_2 => absurd c32_2 (by omega)) (fun c32_2 => ?_)
    refine AR.run g_X5_layBest_35_2 20 [some (.ref 16384), none, some (.int ((nI (1)) + (-1)))] [] _ [] rfl trivial ?_
    exact AR.cast (L' := [some (.ref 16384), none, some (.int (nI (0)))]) (by first | rfl | (rw [nI_add]) | decide) rfl rfl hK
  | succ t ih =>
    intro p b q ht hq hd hK
    have hv := nI_v (t := t) (by omega)
    have hu : upd p 1 (nI 11 - nI t) 1 = nI 11 - nI t := upd_eq
    have hK2 : AR E M_X5_layBest (d + 5) 20 [some (.ref 16384), none, some (.int (nI (0)))] [] (hp o0 a0 t0 p0 (mo z sa ro te fr to un ga ((dv ga 1 (sub1 ga) t (dst ga 1 (sub1 ga) t (p, b, q))).1) ((dv ga 1 (sub1 ga) t (dst ga 1 (sub1 ga) t (p, b, q))).2.1) ((dv ga 1 (sub1 ga) t (dst ga 1 (sub1 ga) t (p, b, q))).2.2) en sta sv ln th hh) u0 l0) o h' 0 0 := hK
    refine AR.run g_X5_layBest_20_1 21 [some (.ref 16384), none, some (.int (nI (1)))] [.int (nI (1))] _ [] rfl trivial ?_
    refine AR.ltN (tgt := 93) (a := 1) dc_X5_layBest_21 (by decide) (by first | rfl | (simp only [nI_add, pk_mul]; first | done | rfl)) (by omega) (fun c21_101 => absurd c21_101 (fun q => q)) (fun c21_101 => ?_)
    refine AR.run g_X5_layBest_24_3 29 [some (.ref 16384), none, some (.int (nI (1)))] [.int (nI (1)), .ref 16393] _ [] rfl trivial ?_
    refine AR.ald (n := 0) (e := 1) ok_X5_layBest_29 (by first | rfl | (simp only [nI_add, pk_mul]; first | done | rfl)) rfl (by omega) (by first | decide | omega) ?_
    refine AR.top hd ?_
    refine AR.run g_X5_layBest_30_1 32 [some (.ref 16384), none, some (.int (nI (1)))] [.int (nI (11)), .int ((nI 11 - nI (t + 1)))] _ [] rfl trivial ?_
    refine AR.ne2 (tgt := 41) dc_X5_layBest_32 (by decide) (fun c32_102 => ?_) (fun c32_102 => absurd c32_102 (nI_v11 (by omega)))
    refine AR.run g_X5_layBest_41_4 47 [some (.ref 16384), none, some (.int (nI (1)))] [.int (nI (1)), .ref 16393, .int (nI (1)), .ref 16393] _ [] rfl trivial ?_
    refine AR.ald (n := 0) (e := 1) ok_X5_layBest_47 (by first | rfl | (simp only [nI_add, pk_mul]; first | done | rfl)) rfl (by omega) (by first | decide | omega) ?_
    refine AR.top hd ?_
    refine AR.run g_X5_layBest_48_2 50 [some (.ref 16384), none, some (.int (nI (1)))] [.int ((nI 11 - nI (t + 1)) + (nI (1))), .int (nI (1)), .ref 16393] _ [] rfl trivial ?_
    refine AR.ast (n := 0) (e := 1) (h1 := (hp o0 a0 t0 p0 (mo z sa ro te fr to un ga (upd p 1 ((nI 11 - nI (t + 1)) + (nI (1)))) b q en sta sv ln th hh) u0 l0)) ok_X5_layBest_50 (by first | rfl | (simp only [nI_add, pk_mul]; first | done | rfl)) rfl rfl (by omega) (by decide) rfl ?_
    refine AR.cast (L' := [some (.ref 16384), none, some (.int (nI (1)))]) rfl rfl (by rw [i_nx]) ?_
    refine AR.run g_X5_layBest_51_2 53 [some (.ref 16384), none, some (.int (nI (1)))] [.int (nI (1)), .ref 16384] _ [] rfl trivial ?_
    refine AR.callV1 (16384) [.int (nI (1))] [] lk_5_219 dc_X5_layBest_53 rfl rfl (s_5canPick _ 1 (by omega) (by rw [hu]; exact hv)) (by first | rfl | (simp only [nI_add, pk_mul]; first | done | rfl)) rfl ?_
    refine AR.eq (tgt := 71) dc_X5_layBest_56 (by decide) (fun c56_103 => ?_) (fun c56_103 => ?_)
    · refine AR.run g_X5_layBest_71_2 73 [some (.ref 16384), none, some (.int (nI (1)))] [.int (nI (1)), .ref 16384] _ [] rfl trivial ?_
      refine AR.callV1 (16384) [.int (nI (1))] [] lk_5_219 dc_X5_layBest_73 rfl rfl (s_5canPick _ 1 (by omega) (by rw [hu]; exact hv)) (by first | rfl | (simp only [nI_add, pk_mul]; first | done | rfl)) rfl ?_
      refine AR.eq (tgt := 20) dc_X5_layBest_76 (by decide) (fun c76_104 => ?_) (fun c76_104 => absurd c76_104 (fun q => q c56_103))
      have hno : dst ga 1 (sub1 ga) t (p, b, q) = (upd p 1 (nI 11 - nI t), b, q) := if_pos (by assumption)
      rw [hno] at hK2
      exact ih (upd p 1 (nI 11 - nI t)) b q (by omega) (fun j hj => by rw [upd_ne (by omega)]; exact hq j hj) hu hK2
    · have hsub : dst ga 1 (sub1 ga) t (p, b, q) = sub1 ga (upd p 1 (nI 11 - nI t), b, q) := if_neg (by assumption)
      refine AR.run g_X5_layBest_59_2 61 [some (.ref 16384), none, some (.int (nI (1)))] [.int (nI (3)), .int (nI (1))] _ [] rfl trivial ?_
      refine AR.ne2N (tgt := 71) (a := 1) (b := 3) dc_X5_layBest_61 (by decide) (by first | rfl | (simp only [nI_add, pk_mul]; first | done | rfl)) (by first | rfl | (simp only [nI_add, pk_mul]; first | done | rfl)) (by omega) (by omega) (fun c61_105 => ?_) (fun c61_105 => absurd c61_105 (by omega))
      refine AR.run g_X5_layBest_71_2 73 [some (.ref 16384), none, some (.int (nI (1)))] [.int (nI (1)), .ref 16384] _ [] rfl trivial ?_
      refine AR.callV1 (16384) [.int (nI (1))] [] lk_5_219 dc_X5_layBest_73 rfl rfl (s_5canPick _ 1 (by omega) (by rw [hu]; exact hv)) (by first | rfl | (simp only [nI_add, pk_mul]; first | done | rfl)) rfl ?_
      refine AR.eq (tgt := 20) dc_X5_layBest_76 (by decide) (fun c76_106 => absurd c76_106 c56_103) (fun c76_106 => ?_)
      refine AR.run g_X5_layBest_79_5 89 [some (.ref 16384), none, some (.int ((nI (1)) + (nI (1))))] [.int (-2), .int ((nI (1)) + (nI (1))), .ref 16393] _ [] rfl trivial ?_
      refine AR.ast (n := 0) (e := (1 + 1)) (h1 := (hp o0 a0 t0 p0 (mo z sa ro te fr to un ga (upd (upd p 1 (nI 11 - nI t)) (1 + 1) (-2)) b q en sta sv ln th hh) u0 l0)) ok_X5_layBest_89 (by first | rfl | (simp only [nI_add, pk_mul]; first | done | rfl)) rfl rfl (by omega) (by decide) rfl ?_
      refine AR.run g_X5_layBest_90_1 20 [some (.ref 16384), none, some (.int ((nI (1)) + (nI (1))))] [] _ [] rfl trivial ?_
      rw [hsub] at hK2
      refine AR.cast (L' := [some (.ref 16384), none, some (.int (nI (2)))]) (by first | rfl | (rw [nI_add])) rfl rfl ?_
      refine lb2 13 (upd (upd p 1 (nI 11 - nI t)) (1 + 1) (-2)) b q (by omega) (fun j hj => ?_) (by rw [upd_eq]; decide) ?_
      · rw [upd_ne (by omega)]
        by_cases hj2 : j = 1
        · rw [hj2, hu]; exact hv
        · rw [upd_ne hj2]; exact hq j (by omega)
      · refine ih _ _ _ (by omega) (fun j hj => ?_) ?_ hK2
        · rw [show (dv ga 2 (sub2 ga) 13 (upd (upd p 1 (nI 11 - nI t)) 2 (-2), b, q)).1 j = _ from (sub1_lo ga (upd p 1 (nI 11 - nI t), b, q) j (by omega))]; show QI 12 (upd p 1 (nI 11 - nI t) j); rw [upd_ne (by omega)]; exact hq j hj
        · exact (sub1_lo ga (upd p 1 (nI 11 - nI t), b, q) 1 (by omega)).trans hu
set_option maxRecDepth 100000 in
set_option maxHeartbeats 4000000 in
theorem lb0 {E : AE} {d : Nat} {o0 a0 t0 p0 u0 l0 : List AC} {z sa ro te fr to un ga : Nat → Int32} {en sta sv ln th : Int32} {hh : Int64} {o : AR0} {h' : AH} : ∀ (t : Nat) (p b : Nat → Int32) (q : Int32), t ≤ 13 → (∀ j, j < 0 → QI 12 (p j)) → p 0 = nI 11 - nI t → AR E M_X5_layBest (d + 5) 20 [some (.ref 16384), none, some (.int (-1))] [] (hp o0 a0 t0 p0 (mo z sa ro te fr to un ga ((dv ga 0 (sub0 ga) t (p, b, q)).1) ((dv ga 0 (sub0 ga) t (p, b, q)).2.1) ((dv ga 0 (sub0 ga) t (p, b, q)).2.2) en sta sv ln th hh) u0 l0) o h' 0 0 → AR E M_X5_layBest (d + 5) 20 [some (.ref 16384), none, some (.int (nI (0)))] [] (hp o0 a0 t0 p0 (mo z sa ro te fr to un ga p b q en sta sv ln th hh) u0 l0) o h' 0 0 := by
  intro t
  induction t with
  | zero =>
    intro p b q _ hq hd hK
    refine AR.run g_X5_layBest_20_1 21 [some (.ref 16384), none, some (.int (nI (0)))] [.int (nI (0))] _ [] rfl trivial ?_
    refine AR.ltN (tgt := 93) (a := 0) dc_X5_layBest_21 (by decide) (by first | rfl | (simp only [nI_add, pk_mul]; first | done | rfl)) (by omega) (fun c21_1 => absurd c21_1 (fun q => q)) (fun c21_1 => ?_)
    refine AR.run g_X5_layBest_24_3 29 [some (.ref 16384), none, some (.int (nI (0)))] [.int (nI (0)), .ref 16393] _ [] rfl trivial ?_
    refine AR.ald (n := 0) (e := 0) ok_X5_layBest_29 (by first | rfl | (simp only [nI_add, pk_mul]; first | done | rfl)) rfl (by omega) (by first | decide | omega) ?_
    refine AR.top hd ?_
    refine AR.run g_X5_layBest_30_1 32 [some (.ref 16384), none, some (.int (nI (0)))] [.int (nI (11)), .int (nI (11))] _ [] rfl trivial ?_
    refine AR.ne2N (tgt := 41) (a := 11) (b := 11) dc_X5_layBest_32 (by decide) (by first | rfl | (simp only [nI_add, pk_mul]; first | done | rfl)) (by first | rfl | (simp only [nI_add, pk_mul]; first | done | rfl)) (by omega) (by omega) (fun c32_2 => absurd c32_2 (by omega)) (fun c32_2 => ?_)
    refine AR.run g_X5_layBest_35_2 20 [some (.ref 16384), none, some (.int ((nI (0)) + (-1)))] [] _ [] rfl trivial ?_
    exact AR.cast (L' := [some (.ref 16384), none, some (.int (-1))]) (by first | rfl | (rw [nI_add]) | decide) rfl rfl hK
  | succ t ih =>
    intro p b q ht hq hd hK
    have hv := nI_v (t := t) (by omega)
    have hu : upd p 0 (nI 11 - nI t) 0 = nI 11 - nI t := upd_eq
    have hK2 : AR E M_X5_layBest (d + 5) 20 [some (.ref 16384), none, some (.int (-1))] [] (hp o0 a0 t0 p0 (mo z sa ro te fr to un ga ((dv ga 0 (sub0 ga) t (dst ga 0 (sub0 ga) t (p, b, q))).1) ((dv ga 0 (sub0 ga) t (dst ga 0 (sub0 ga) t (p, b, q))).2.1) ((dv ga 0 (sub0 ga) t (dst ga 0 (sub0 ga) t (p, b, q))).2.2) en sta sv ln th hh) u0 l0) o h' 0 0 := hK
    refine AR.run g_X5_layBest_20_1 21 [some (.ref 16384), none, some (.int (nI (0)))] [.int (nI (0))] _ [] rfl trivial ?_
    refine AR.ltN (tgt := 93) (a := 0) dc_X5_layBest_21 (by decide) (by first | rfl | (simp only [nI_add, pk_mul]; first | done | rfl)) (by omega) (fun c21_101 => absurd c21_101 (fun q => q)) (fun c21_101 => ?_)
    refine AR.run g_X5_layBest_24_3 29 [some (.ref 16384), none, some (.int (nI (0)))] [.int (nI (0)), .ref 16393] _ [] rfl trivial ?_
    refine AR.ald (n := 0) (e := 0) ok_X5_layBest_29 (by first | rfl | (simp only [nI_add, pk_mul]; first | done | rfl)) rfl (by omega) (by first | decide | omega) ?_
    refine AR.top hd ?_
    refine AR.run g_X5_layBest_30_1 32 [some (.ref 16384), none, some (.int (nI (0)))] [.int (nI (11)), .int ((nI 11 - nI (t + 1)))] _ [] rfl trivial ?_
    refine AR.ne2 (tgt := 41) dc_X5_layBest_32 (by decide) (fun c32_102 => ?_) (fun c32_102 => absurd c32_102 (nI_v11 (by omega)))
    refine AR.run g_X5_layBest_41_4 47 [some (.ref 16384), none, some (.int (nI (0)))] [.int (nI (0)), .ref 16393, .int (nI (0)), .ref 16393] _ [] rfl trivial ?_
    refine AR.ald (n := 0) (e := 0) ok_X5_layBest_47 (by first | rfl | (simp only [nI_add, pk_mul]; first | done | rfl)) rfl (by omega) (by first | decide | omega) ?_
    refine AR.top hd ?_
    refine AR.run g_X5_layBest_48_2 50 [some (.ref 16384), none, some (.int (nI (0)))] [.int ((nI 11 - nI (t + 1)) + (nI (1))), .int (nI (0)), .ref 16393] _ [] rfl trivial ?_
    refine AR.ast (n := 0) (e := 0) (h1 := (hp o0 a0 t0 p0 (mo z sa ro te fr to un ga (upd p 0 ((nI 11 - nI (t + 1)) + (nI (1)))) b q en sta sv ln th hh) u0 l0)) ok_X5_layBest_50 (by first | rfl | (simp only [nI_add, pk_mul]; first | done | rfl)) rfl rfl (by omega) (by decide) rfl ?_
    refine AR.cast (L' := [some (.ref 16384), none, some (.int (nI (0)))]) rfl rfl (by rw [i_nx]) ?_
    refine AR.run g_X5_layBest_51_2 53 [some (.ref 16384), none, some (.int (nI (0)))] [.int (nI (0)), .ref 16384] _ [] rfl trivial ?_
    refine AR.callV1 (16384) [.int (nI (0))] [] lk_5_219 dc_X5_layBest_53 rfl rfl (s_5canPick _ 0 (by omega) (by rw [hu]; exact hv)) (by first | rfl | (simp only [nI_add, pk_mul]; first | done | rfl)) rfl ?_
    refine AR.eq (tgt := 71) dc_X5_layBest_56 (by decide) (fun c56_103 => ?_) (fun c56_103 => ?_)
    · refine AR.run g_X5_layBest_71_2 73 [some (.ref 16384), none, some (.int (nI (0)))] [.int (nI (0)), .ref 16384] _ [] rfl trivial ?_
      refine AR.callV1 (16384) [.int (nI (0))] [] lk_5_219 dc_X5_layBest_73 rfl rfl (s_5canPick _ 0 (by omega) (by rw [hu]; exact hv)) (by first | rfl | (simp only [nI_add, pk_mul]; first | done | rfl)) rfl ?_
      refine AR.eq (tgt := 20) dc_X5_layBest_76 (by decide) (fun c76_104 => ?_) (fun c76_104 => absurd c76_104 (fun q => q c56_103))
      have hno : dst ga 0 (sub0 ga) t (p, b, q) = (upd p 0 (nI 11 - nI t), b, q) := if_pos (by assumption)
      rw [hno] at hK2
      exact ih (upd p 0 (nI 11 - nI t)) b q (by omega) (fun j hj => by rw [upd_ne (by omega)]; exact hq j hj) hu hK2
    · have hsub : dst ga 0 (sub0 ga) t (p, b, q) = sub0 ga (upd p 0 (nI 11 - nI t), b, q) := if_neg (by assumption)
      refine AR.run g_X5_layBest_59_2 61 [some (.ref 16384), none, some (.int (nI (0)))] [.int (nI (3)), .int (nI (0))] _ [] rfl trivial ?_
      refine AR.ne2N (tgt := 71) (a := 0) (b := 3) dc_X5_layBest_61 (by decide) (by first | rfl | (simp only [nI_add, pk_mul]; first | done | rfl)) (by first | rfl | (simp only [nI_add, pk_mul]; first | done | rfl)) (by omega) (by omega) (fun c61_105 => ?_) (fun c61_105 => absurd c61_105 (by omega))
      refine AR.run g_X5_layBest_71_2 73 [some (.ref 16384), none, some (.int (nI (0)))] [.int (nI (0)), .ref 16384] _ [] rfl trivial ?_
      refine AR.callV1 (16384) [.int (nI (0))] [] lk_5_219 dc_X5_layBest_73 rfl rfl (s_5canPick _ 0 (by omega) (by rw [hu]; exact hv)) (by first | rfl | (simp only [nI_add, pk_mul]; first | done | rfl)) rfl ?_
      refine AR.eq (tgt := 20) dc_X5_layBest_76 (by decide) (fun c76_106 => absurd c76_106 c56_103) (fun c76_106 => ?_)
      refine AR.run g_X5_layBest_79_5 89 [some (.ref 16384), none, some (.int ((nI (0)) + (nI (1))))] [.int (-2), .int ((nI (0)) + (nI (1))), .ref 16393] _ [] rfl trivial ?_
      refine AR.ast (n := 0) (e := (0 + 1)) (h1 := (hp o0 a0 t0 p0 (mo z sa ro te fr to un ga (upd (upd p 0 (nI 11 - nI t)) (0 + 1) (-2)) b q en sta sv ln th hh) u0 l0)) ok_X5_layBest_89 (by first | rfl | (simp only [nI_add, pk_mul]; first | done | rfl)) rfl rfl (by omega) (by decide) rfl ?_
      refine AR.run g_X5_layBest_90_1 20 [some (.ref 16384), none, some (.int ((nI (0)) + (nI (1))))] [] _ [] rfl trivial ?_
      rw [hsub] at hK2
      refine AR.cast (L' := [some (.ref 16384), none, some (.int (nI (1)))]) (by first | rfl | (rw [nI_add])) rfl rfl ?_
      refine lb1 13 (upd (upd p 0 (nI 11 - nI t)) (0 + 1) (-2)) b q (by omega) (fun j hj => ?_) (by rw [upd_eq]; decide) ?_
      · rw [upd_ne (by omega)]
        by_cases hj2 : j = 0
        · rw [hj2, hu]; exact hv
        · rw [upd_ne hj2]; exact hq j (by omega)
      · refine ih _ _ _ (by omega) (fun j hj => ?_) ?_ hK2
        · rw [show (dv ga 1 (sub1 ga) 13 (upd (upd p 0 (nI 11 - nI t)) 1 (-2), b, q)).1 j = _ from (sub0_lo ga (upd p 0 (nI 11 - nI t), b, q) j (by omega))]; show QI 12 (upd p 0 (nI 11 - nI t) j); rw [upd_ne (by omega)]; exact hq j hj
        · exact (sub0_lo ga (upd p 0 (nI 11 - nI t), b, q) 0 (by omega)).trans hu
def F_5layBest_ga (m : Nat) (nv : Nat) (nc : Nat) (z : Nat → Int32) (ga : Nat → Int32) : Nat → Int32 := (F_5layGains_ga m nv nc z ga)
def F_5layBest_pi (m : Nat) (nv : Nat) (nc : Nat) (z : Nat → Int32) (ga : Nat → Int32) (pi : Nat → Int32) (be : Nat → Int32) : Nat → Int32 := ((sg0 (F_5layGains_ga m nv nc z ga) pi be).1)
def F_5layBest_be (m : Nat) (nv : Nat) (nc : Nat) (z : Nat → Int32) (ga : Nat → Int32) (pi : Nat → Int32) (be : Nat → Int32) : Nat → Int32 := ((sg0 (F_5layGains_ga m nv nc z ga) pi be).2.1)
def F_5layBest_bm (m : Nat) (nv : Nat) (nc : Nat) (z : Nat → Int32) (ga : Nat → Int32) (pi : Nat → Int32) (be : Nat → Int32) : Int32 := ((sg0 (F_5layGains_ga m nv nc z ga) pi be).2.2)
theorem g_X5_layBest_0_2 : ab_oks M_X5_layBest [(0, .aload_n 0, 1, 0, 0, 0, .null), (1, .iload_n 1, 1, 1, 0, 0, .null)] = true := by decide +kernel
theorem lk_5_215 : ab_lkV "LeafCradlesModel" 215 M_X5_layGains 1 [1287, 1289, 79, 97, 1290] = true := by decide +kernel
theorem dc_X5_layBest_2 : decode (AM.bytes M_X5_layBest) 2 = .ok (.invokevirtual 215, 3) := by decide +kernel
theorem g_X5_layBest_5_9 : ab_oks M_X5_layBest [(5, .aload_n 0, 1, 0, 0, 0, .null), (6, .iconst (-1), 1, 0, 0, 0, .int (-1)), (7, .putfield 212, 3, 5, 10, 946, .null), (10, .iconst 0, 1, 0, 0, 0, .int (nI (0))), (11, .istore_n 2, 1, 2, 0, 0, .null), (12, .aload_n 0, 1, 0, 0, 0, .null), (13, .getfield 34, 3, 5, 8, 944, .null), (16, .iconst 0, 1, 0, 0, 0, .int (nI (0))), (17, .bipush (-2), 2, 0, 0, 0, .int (-2))] = true := by decide +kernel
theorem ok_X5_layBest_19 : ab_ok M_X5_layBest (19, .iastore, 1, 0, 0, 0, .null) = true := by decide +kernel
theorem dc_X5_layBest_93 : decode (AM.bytes M_X5_layBest) 93 = .ok (.return_, 1) := by decide +kernel
set_option maxRecDepth 100000 in
set_option maxHeartbeats 4000000 in
theorem s_5layBest {E : AE} (d : Nat) (m : Nat) {nv : Nat} {nc : Nat} {nr : Nat} {ne : Nat}  {o0 a0 t0 p0 u0 l0 : List AC} {z sa ro te fr to un ga pi be : Nat → Int32} {bm en sta sv ln th : Int32} {hh : Int64} (hZ : ZI z nv nc nr ne) (hm : m ≤ 500) (hm1 : 1 ≤ m) : CT E M_X5_layBest (d + 5) [.ref 16384, .int (nI (m))] (hp o0 a0 t0 p0 (mo z sa ro te fr to un ga pi be bm en sta sv ln th hh) u0 l0) (.inl none) (hp o0 a0 t0 p0 (mo z sa ro te fr to un (F_5layBest_ga m nv nc z ga) (F_5layBest_pi m nv nc z ga pi be) (F_5layBest_be m nv nc z ga pi be) (F_5layBest_bm m nv nc z ga pi be) en sta sv ln th hh) u0 l0) 0 0 := by
  obtain ⟨⟨hnv, h12⟩, ⟨hnc, h4⟩, ⟨hnr, h3⟩, ⟨hne, h60⟩, hLV⟩ := id hZ
  refine CT.of (L := [some (.ref 16384), some (.int (nI (m))), none]) rfl rfl ?_
  refine AR.run g_X5_layBest_0_2 2 [some (.ref 16384), some (.int (nI (m))), none] [.int (nI (m)), .ref 16384] _ [] rfl trivial ?_
  refine AR.callV0 (16384) [.int (nI (m))] [] lk_5_215 dc_X5_layBest_2 rfl rfl (s_5layGains _ m (by assumption) (by omega) (by omega)) (by first | rfl | (simp only [nI_add, pk_mul]; first | done | rfl)) rfl ?_
  refine AR.run g_X5_layBest_5_9 19 [some (.ref 16384), some (.int (nI (m))), some (.int (nI (0)))] [.int (-2), .int (nI (0)), .ref 16393] (hp o0 a0 t0 p0 (mo z sa ro te fr to un (F_5layGains_ga m nv nc z ga) pi be (-1) en sta sv ln th hh) u0 l0) [] rfl trivial ?_
  refine AR.ast (n := 0) (e := 0) (h1 := (hp o0 a0 t0 p0 (mo z sa ro te fr to un (F_5layGains_ga m nv nc z ga) (upd pi 0 (-2)) be (-1) en sta sv ln th hh) u0 l0)) ok_X5_layBest_19 (by first | rfl | (simp only [nI_add, pk_mul]; first | done | rfl)) rfl rfl (by omega) (by decide) rfl ?_
  refine AR.drop (L' := [some (.ref 16384), none, some (.int (nI (0)))]) ⟨rfl, rfl, trivial⟩ ?_
  unfold F_5layBest_pi F_5layBest_be F_5layBest_bm
  refine lb0 (ga := F_5layGains_ga m nv nc z ga) 13 (upd pi 0 (-2)) be (-1) (by omega) (fun j hj => by omega) (by rw [upd_eq]; decide) ?_
  refine AR.run g_X5_layBest_20_1 21 [some (.ref 16384), none, some (.int (-1))] [.int (-1)] _ [] rfl trivial ?_
  refine AR.lt (tgt := 93) dc_X5_layBest_21 (by decide) (fun c21_1 => ?_) (fun c21_1 => absurd c21_1 (by decide))
  exact AR.retV dc_X5_layBest_93 rfl rfl
