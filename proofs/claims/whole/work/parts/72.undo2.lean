section UND
variable {T K : Nat → Nat → Int32} {z ro : Nat → Int32} {nv nc nr ne a b : Nat}
theorem sK {t s j : Nat} (ht : t < 6) (hs : s < 6) (hj : j < ksz t) : F_0save_K a b T K t (s * ksz t + j) = if s = (a + b) % 6 then T t j else K t (s * ksz t + j) := by
  have e : F_0save_K a b T K = (tu (tu (tu (tu (tu (tu K 0 (va_cpy (T 0) (K 0) 0 (((a + b) % 6) * 91) 91)) 1 (va_cpy (T 1) (K 1) 0 (((a + b) % 6) * 1560) 1560)) 2 (va_cpy (T 2) (K 2) 0 (((a + b) % 6) * 25) 25)) 3 (va_cpy (T 3) (K 3) 0 (((a + b) % 6) * 12) 12)) 4 (va_cpy (T 4) (K 4) 0 (((a + b) % 6) * 300) 300)) 5 (va_cpy (T 5) (K 5) 0 (((a + b) % 6) * 11) 11)) := by
    unfold F_0save_K
    split <;> rfl
  rw [e]
  have key : ∀ (f g : Nat → Int32) (n : Nat), j < n → (∀ x y : Nat, x ≠ y → x < y → x * n + n ≤ y * n) → va_cpy f g 0 (((a + b) % 6) * n) n (s * n + j) = if s = (a + b) % 6 then f j else g (s * n + j) := by
    intro f g n hn hmul
    generalize (a + b) % 6 = p
    by_cases q : s = p
    · rw [if_pos q, q, pk_cpy_in (by omega) (by omega)]
      exact congrArg f (by omega)
    · rw [if_neg q]
      by_cases l : s < p
      · have := hmul s p q l
        rw [pk_cpy_out (by omega)]
      · have := hmul p s (fun e => q e.symm) (by omega)
        rw [pk_cpy_out (by omega)]
  obtain rfl | rfl | rfl | rfl | rfl | rfl : t = 0 ∨ t = 1 ∨ t = 2 ∨ t = 3 ∨ t = 4 ∨ t = 5 := by omega
  · exact key (T 0) (K 0) 91 hj fun x y _ h => by omega
  · exact key (T 1) (K 1) 1560 hj fun x y _ h => by omega
  · exact key (T 2) (K 2) 25 hj fun x y _ h => by omega
  · exact key (T 3) (K 3) 12 hj fun x y _ h => by omega
  · exact key (T 4) (K 4) 300 hj fun x y _ h => by omega
  · exact key (T 5) (K 5) 11 hj fun x y _ h => by omega
theorem SR_cg {K' : Nat → Nat → Int32} {ro' : Nat → Int32} {s s' i i' : Nat} (hK : ∀ t j, t < 6 → j < ksz t → K' t (s' * ksz t + j) = K t (s * ksz t + j)) (hro : ∀ j, j < 1863 → ro' (1863 * i' + j) = ro (1863 * i + j)) (h : ∃ nv nc nr ne, RT (kT K s) (zS ro i) nv nc ∧ WZ (zS ro i) nv nc nr ne) : ∃ nv nc nr ne, RT (kT K' s') (zS ro' i') nv nc ∧ WZ (zS ro' i') nv nc nr ne := by
  obtain ⟨nv, nc, nr, ne, h1, h2⟩ := h
  exact ⟨nv, nc, nr, ne, RT_cg h2.nv.2 hK hro h1 h2.nc.2, WZ_cg hro h2⟩
/-- saving -/
theorem SR_save (hS : SR K ro a b) (hb : b ≤ 6) (h : RT T z nv nc) (w : WZ z nv nc nr ne) : SR (F_0save_K a b T K) (svR z ro b) (if 6 ≤ b then (a + 1) % 6 else a) (svN b) := by
  intro i hi
  unfold svN at hi
  unfold svR
  by_cases q : b = 6
  · rw [if_pos (show 6 ≤ b by omega), if_pos q]
    rw [if_pos q] at hi
    obtain ⟨f1, f2⟩ := svF1 (ro := ro) 9315 (by omega)
    have hF : ∀ j, (∀ i, i < j → L_5saveF_52 z ro j (1863 * 5 + i) = z i) ∧ ∀ i, (i < 1863 * 5 ∨ 1863 * 5 + j ≤ i) → L_5saveF_52 z ro j i = L_5saveF_11 ro 9315 i := by
      intro j
      induction j with
      | zero => exact ⟨fun i hi => by omega, fun _ _ => rfl⟩
      | succ j ih =>
        obtain ⟨g1, g2⟩ := ih
        have e : L_5saveF_52 z ro (j + 1) = upd (L_5saveF_52 z ro j) ((1863 * (6 - 1)) + j) (z j) := rfl
        rw [e]
        refine ⟨fun i hi => ?_, fun i hi => ?_⟩
        · by_cases q : i = j
          · rw [q]
            exact upd_eq
          · rw [upd_ne (by omega), g1 i (by omega)]
        · rw [upd_ne (by omega), g2 i (by omega)]
    obtain ⟨g1, g2⟩ := hF 1863
    show ∃ nv nc nr ne, RT (kT (F_0save_K a b T K) (((a + 1) % 6 + i) % 6)) (zS (L_5saveF_52 z ro 1863) i) nv nc ∧ WZ (zS (L_5saveF_52 z ro 1863) i) nv nc nr ne
    by_cases hi5 : i = 5
    · refine ⟨nv, nc, nr, ne, RT_cg w.nv.2 (fun t j ht hj => ?_) (fun j hj => ?_) h w.nc.2, WZ_cg (fun j hj => ?_) w⟩
      · refine (sK ht (by omega) hj).trans (if_pos (by omega))
      · show L_5saveF_52 z ro 1863 (1863 * i + j) = z j
        rw [hi5]
        exact g1 j hj
      · show L_5saveF_52 z ro 1863 (1863 * i + j) = z j
        rw [hi5]
        exact g1 j hj
    · refine SR_cg (K := K) (ro := ro) (s := (a + (i + 1)) % 6) (i := i + 1) (fun t j ht hj => ?_) (fun j hj => ?_) (hS (i + 1) (by omega))
      · rw [sK ht (by omega) hj, if_neg (by omega), show ((a + 1) % 6 + i) % 6 = (a + (i + 1)) % 6 by omega]
      · rw [g2 _ (by omega), f1 _ (by omega)]
        exact congrArg ro (by omega)
  · rw [if_neg (show ¬ 6 ≤ b by omega), if_neg q]
    rw [if_neg q] at hi
    obtain ⟨g1, g2⟩ := svM (z := z) (ro := ro) (s := b) 1863
    show ∃ nv nc nr ne, RT (kT (F_0save_K a b T K) ((a + i) % 6)) (zS (L_5saveM_52 b z ro 1863) i) nv nc ∧ WZ (zS (L_5saveM_52 b z ro 1863) i) nv nc nr ne
    by_cases hib : i = b
    · subst hib
      refine ⟨nv, nc, nr, ne, RT_cg w.nv.2 (fun t j ht hj => ?_) (fun j hj => g1 j hj) h w.nc.2, WZ_cg (fun j hj => g1 j hj) w⟩
      exact (sK ht (by omega) hj).trans (if_pos rfl)
    · refine SR_cg (K := K) (ro := ro) (s := (a + i) % 6) (i := i) (fun t j ht hj => ?_) (fun j hj => ?_) (hS i (by omega))
      · rw [sK ht (by omega) hj, if_neg (by omega)]
      · rw [g2 _ (by omega)]
/-- undoing -/
theorem rK {t j : Nat} (ht : t < 6) (hj : j < ksz t) : F_0restore_T a b T K t j = K t (((a + (b - 1)) % 6) * ksz t + j) := by
  have key : ∀ (f g : Nat → Int32) (n : Nat), j < n → va_cpy f g (((a + (b - 1)) % 6) * n) 0 n j = f (((a + (b - 1)) % 6) * n + j) := fun f g n hn => by
    rw [pk_cpy_in (by omega) (by omega)]
    rfl
  obtain rfl | rfl | rfl | rfl | rfl | rfl : t = 0 ∨ t = 1 ∨ t = 2 ∨ t = 3 ∨ t = 4 ∨ t = 5 := by omega
  · exact key (K 0) (T 0) 91 hj
  · exact key (K 1) (T 1) 1560 hj
  · exact key (K 2) (T 2) 25 hj
  · exact key (K 3) (T 3) 12 hj
  · exact key (K 4) (T 4) 300 hj
  · exact key (K 5) (T 5) 11 hj
theorem SR_undo (hS : SR K ro a b) (hb : 0 < b) : (∃ nv nc nr ne, RT (F_0restore_T a b T K) (L_5undo_30 b z ro 1863) nv nc ∧ WZ (L_5undo_30 b z ro 1863) nv nc nr ne) ∧ SR K ro a (b - 1) := by
  obtain ⟨g1, g2⟩ := und (z := z) (ro := ro) (s := b) 1863
  refine ⟨?_, fun i hi => hS i (by omega)⟩
  obtain ⟨nv, nc, nr, ne, h1, h2⟩ := hS (b - 1) (by omega)
  exact ⟨nv, nc, nr, ne, RT_cg h2.nv.2 (fun t j ht hj => rK ht hj) (fun j hj => g1 j hj) h1 h2.nc.2, WZ_cg (fun j hj => g1 j hj) h2⟩
end UND
