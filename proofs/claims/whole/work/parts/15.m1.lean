theorem ru {f : Nat → Int32} {k j : Nat} {x : Int32} (h : j = k) : upd f k x j = x := by rw [h]; exact pk_us
theorem rn {f : Nat → Int32} {k j : Nat} {x : Int32} (h : j ≠ k) : upd f k x j = f j := pk_un h
/-- 1 where v lies from a to b, else 0 -/
def wi (v a b : Int32) : Int32 := if a ≤ v ∧ v ≤ b then 1 else 0
theorem wi01 (v a b : Int32) : wi v a b = 0 ∨ wi v a b = 1 := by unfold wi; split; exact Or.inr rfl; exact Or.inl rfl
def bi (p : Prop) [Decidable p] : Int32 := if p then 1 else 0
theorem bi01 (p : Prop) [Decidable p] : bi p = 0 ∨ bi p = 1 := by unfold bi; split; exact Or.inr rfl; exact Or.inl rfl
/-- a sum of n places -/
def sumF (f : Nat → Int32) : Nat → Int32
  | 0 => nI 0
  | n + 1 => sumF f n + f n
/-- the place of the first of n, from i on -/
def fi (p : Nat → Prop) [DecidablePred p] : Nat → Nat → Option Nat
  | 0, _ => none
  | n + 1, i => if p i then some i else fi p n (i + 1)
theorem fi_some {p : Nat → Prop} [DecidablePred p] : ∀ {n i q : Nat}, fi p n i = some q → i ≤ q ∧ q < i + n ∧ p q
  | 0, i, q, h => by simp [fi] at h
  | n + 1, i, q, h => by
    unfold fi at h
    split at h
    · cases h; exact ⟨Nat.le_refl _, by omega, by assumption⟩
    · have := fi_some h; exact ⟨by omega, by omega, this.2.2⟩
theorem fi_none {p : Nat → Prop} [DecidablePred p] : ∀ {n i : Nat}, fi p n i = none → ∀ q, i ≤ q → q < i + n → ¬ p q
  | 0, i, h, q, h1, h2 => by omega
  | n + 1, i, h, q, h1, h2 => by
    unfold fi at h
    split at h
    · cases h
    · rcases Nat.eq_or_lt_of_le h1 with e | e
      · subst e; assumption
      · exact fi_none h q e (by omega)
/-- NONE or a number -/
def oI : Option Nat → Int32
  | none => -1
  | some n => nI n
theorem oI_ne {o : Option Nat} (h : ¬ oI o = -1) : ∃ q, o = some q := by
  cases o with
  | none => exact absurd rfl h
  | some q => exact ⟨q, rfl⟩
theorem nI_m1 {q : Nat} (h : q < 2147483648) : ¬ nI q = -1 := by
  intro e
  have := congrArg Int32.toInt e
  rw [nI_toInt h] at this
  have h2 : (-1 : Int32).toInt = -1 := by decide
  rw [h2] at this
  omega
theorem oI_eq {o : Option Nat} (h : oI o = -1) (hb : ∀ q, o = some q → q < 2147483648) : o = none := by
  cases o with
  | none => rfl
  | some q => exact absurd h (nI_m1 (hb q rfl))
theorem oI_iff {o : Option Nat} (hb : ∀ q, o = some q → q < 2147483648) : oI o = -1 ↔ o = none := ⟨fun h => oI_eq h hb, fun h => by rw [h]; rfl⟩
/-- the volume on a cradle: the last one of n -/
def vo (z : Nat → Int32) (c : Int32) : Nat → Option Nat
  | 0 => none
  | n + 1 => if z (11 + 7 * n + 5) - nI 1 = c then some n else vo z c n
theorem vo_some {z : Nat → Int32} {c : Int32} : ∀ {n q : Nat}, vo z c n = some q → q < n ∧ z (11 + 7 * q + 5) - nI 1 = c
  | 0, q, h => by simp [vo] at h
  | n + 1, q, h => by
    unfold vo at h
    split at h
    · cases h; exact ⟨by omega, by assumption⟩
    · have := vo_some h; exact ⟨by omega, this.2⟩
theorem vo_cases (z : Nat → Int32) (c : Int32) (n : Nat) : vo z c n = none ∨ ∃ q, vo z c n = some q ∧ q < n := by
  cases h : vo z c n with
  | none => exact Or.inl rfl
  | some q => exact Or.inr ⟨q, rfl, (vo_some h).1⟩
/-- the leaf that comes next: the first faulty one, else the first that isn't scanned -/
def nlB (f : Nat → Int32) (m k : Nat) : Option Nat := match fi (fun j => f j = nI 2) m k with
  | some q => some q
  | none => fi (fun j => f j = nI 0) m k
theorem nlB_some {f : Nat → Int32} {m k q : Nat} (h : nlB f m k = some q) : k ≤ q ∧ q < k + m := by
  unfold nlB at h
  split at h
  · rename_i q' h'
    cases h
    have := fi_some h'
    exact ⟨this.1, this.2.1⟩
  · have := fi_some h
    exact ⟨this.1, this.2.1⟩
theorem nlB_2 {f : Nat → Int32} {m k : Nat} (h : f k = nI 2) : nlB f (m + 1) k = some k := by
  unfold nlB fi
  rw [if_pos h]
theorem nlB_k1 {f : Nat → Int32} {m k : Nat} (h2 : ¬ f k = nI 2) (h0 : ¬ f k = nI 0) : nlB f (m + 1) k = nlB f m (k + 1) := by
  unfold nlB
  rw [show fi (fun j => f j = nI 2) (m + 1) k = fi (fun j => f j = nI 2) m (k + 1) by rw [fi, if_neg h2], show fi (fun j => f j = nI 0) (m + 1) k = fi (fun j => f j = nI 0) m (k + 1) by rw [fi, if_neg h0]]
theorem nlB_0a {f : Nat → Int32} {m k : Nat} (h0 : f k = nI 0) (h : nlB f m (k + 1) = none) : nlB f (m + 1) k = some k := by
  have h2 : ¬ f k = nI 2 := by rw [h0]; decide
  have h3 : fi (fun j => f j = nI 2) m (k + 1) = none := by
    unfold nlB at h
    split at h
    · cases h
    · assumption
  unfold nlB
  rw [show fi (fun j => f j = nI 2) (m + 1) k = none by rw [fi, if_neg h2]; exact h3]
  dsimp only
  rw [fi, if_pos h0]
theorem nlB_0b {f : Nat → Int32} {m k q : Nat} (h0 : f k = nI 0) (h : nlB f m (k + 1) = some q) (hq : f q = nI 0) : nlB f (m + 1) k = some k := by
  have h2 : ¬ f k = nI 2 := by rw [h0]; decide
  have h3 : fi (fun j => f j = nI 2) m (k + 1) = none := by
    unfold nlB at h
    split at h
    · rename_i q' h'
      cases h
      have := (fi_some h').2.2
      rw [hq] at this
      exact absurd this (by decide)
    · assumption
  unfold nlB
  rw [show fi (fun j => f j = nI 2) (m + 1) k = none by rw [fi, if_neg h2]; exact h3]
  dsimp only
  rw [fi, if_pos h0]
theorem nlB_k2 {f : Nat → Int32} {m k q : Nat} (h0 : f k = nI 0) (h : nlB f m (k + 1) = some q) (hq : ¬ f q = nI 0) : nlB f (m + 1) k = some q := by
  have h2 : ¬ f k = nI 2 := by rw [h0]; decide
  have h3 : fi (fun j => f j = nI 2) m (k + 1) = some q := by
    unfold nlB at h
    split at h
    · rename_i q' h'
      cases h
      exact h'
    · exact absurd (fi_some h).2.2 hq
  unfold nlB
  rw [show fi (fun j => f j = nI 2) (m + 1) k = some q by rw [fi, if_neg h2]; exact h3]
abbrev cnd (z : Nat → Int32) (v : Nat) : Nat → Int32 := fun k => z (423 + 3 * (40 * v + k) + 0)
abbrev nlO (z : Nat → Int32) (v n : Nat) : Option Nat := nlB (cnd z v) n 0
def lv (z : Nat → Int32) (v : Nat) : Nat := (z (11 + 7 * v + 2)).toNatClampNeg
theorem nlO_iff {z : Nat → Int32} {v n : Nat} (h : n ≤ 40) : oI (nlO z v n) = -1 ↔ nlO z v n = none := oI_iff fun q hq => by have := nlB_some hq; omega
abbrev LV (z : Nat → Int32) (nv : Nat) : Prop := ∀ v, v < nv → z (11 + 7 * v + 2) = nI (lv z v) ∧ lv z v ≤ 40
theorem CT.ret {E : AE} {M : AM} {d : Nat} {av : List Value} {h : AH} {a b : Int32} {h' : AH} {mc ms : Nat} (hc : CT E M d av h (.inl (some (.int a))) h' mc ms) (e : a = b) : CT E M d av h (.inl (some (.int b))) h' mc ms := by rw [← e]; exact hc
theorem g_X5_thrown_0_2 : ab_oks M_X5_thrown [(0, .aload_n 0, 1, 0, 0, 0, .null), (1, .getfield 40, 3, 5, 15, 951, .null)] = true := by decide +kernel
theorem dc_X5_thrown_4 : decode (AM.bytes M_X5_thrown) 4 = .ok (.ireturn, 1) := by decide +kernel
set_option maxRecDepth 100000 in
set_option maxHeartbeats 4000000 in
theorem s_thrown {E : AE} (d : Nat) {o0 a0 t0 p0 u0 l0 : List AC} {z sa ro te fr to un ga pi be : Nat → Int32} {bm en sta sv ln th : Int32} {hh : Int64} : CT E M_X5_thrown d [.ref 16384] (hp o0 a0 t0 p0 (mo z sa ro te fr to un ga pi be bm en sta sv ln th hh) u0 l0) (.inl (some (.int (th)))) (hp o0 a0 t0 p0 (mo z sa ro te fr to un ga pi be bm en sta sv ln th hh) u0 l0) 0 0 := by
  refine CT.of (L := [some (.ref 16384)]) rfl rfl ?_
  refine AR.run g_X5_thrown_0_2 4 [some (.ref 16384)] [.int (th)] _ [] rfl trivial ?_
  exact AR.retI dc_X5_thrown_4 rfl (by first | rfl | (simp only [nI_add, pk_mul]; first | done | rfl)) rfl
theorem g_X5_fails_0_4 : ab_oks M_X5_fails [(0, .aload_n 0, 1, 0, 0, 0, .null), (1, .iload_n 1, 1, 1, 0, 0, .null), (2, .putfield 40, 3, 5, 15, 951, .null), (5, .iconst 0, 1, 0, 0, 0, .int (nI (0)))] = true := by decide +kernel
theorem dc_X5_fails_6 : decode (AM.bytes M_X5_fails) 6 = .ok (.ireturn, 1) := by decide +kernel
set_option maxRecDepth 100000 in
set_option maxHeartbeats 4000000 in
theorem s_fails {E : AE} (d : Nat) (by_ : Int32) {o0 a0 t0 p0 u0 l0 : List AC} {z sa ro te fr to un ga pi be : Nat → Int32} {bm en sta sv ln th : Int32} {hh : Int64} : CT E M_X5_fails d [.ref 16384, .int (by_)] (hp o0 a0 t0 p0 (mo z sa ro te fr to un ga pi be bm en sta sv ln th hh) u0 l0) (.inl (some (.int (nI (0))))) (hp o0 a0 t0 p0 (mo z sa ro te fr to un ga pi be bm en sta sv ln by_ hh) u0 l0) 0 0 := by
  refine CT.of (L := [some (.ref 16384), some (.int (by_))]) rfl rfl ?_
  refine AR.run g_X5_fails_0_4 6 [some (.ref 16384), some (.int (by_))] [.int (nI (0))] (hp o0 a0 t0 p0 (mo z sa ro te fr to un ga pi be bm en sta sv ln by_ hh) u0 l0) [] rfl trivial ?_
  exact AR.retI dc_X5_fails_6 rfl (by first | rfl | (simp only [nI_add, pk_mul]; first | done | rfl)) rfl
theorem g_X5_within_0_2 : ab_oks M_X5_within [(0, .iload_n 0, 1, 0, 0, 0, .null), (1, .iload_n 1, 1, 1, 0, 0, .null)] = true := by decide +kernel
theorem dc_X5_within_2 : decode (AM.bytes M_X5_within) 2 = .ok (.if_icmp .lt 12, 3) := by decide +kernel
theorem g_X5_within_14_1 : ab_oks M_X5_within [(14, .iconst 0, 1, 0, 0, 0, .int (nI (0)))] = true := by decide +kernel
theorem dc_X5_within_15 : decode (AM.bytes M_X5_within) 15 = .ok (.ireturn, 1) := by decide +kernel
theorem g_X5_within_5_2 : ab_oks M_X5_within [(5, .iload_n 0, 1, 0, 0, 0, .null), (6, .iload_n 2, 1, 2, 0, 0, .null)] = true := by decide +kernel
theorem dc_X5_within_7 : decode (AM.bytes M_X5_within) 7 = .ok (.if_icmp .gt 7, 3) := by decide +kernel
theorem g_X5_within_10_2 : ab_oks M_X5_within [(10, .iconst 1, 1, 0, 0, 0, .int (nI (1))), (11, .goto 4, 3, 15, 0, 0, .null)] = true := by decide +kernel
set_option maxRecDepth 100000 in
set_option maxHeartbeats 4000000 in
theorem s_within {E : AE} (d : Nat) (v a b : Int32) {h : AH} : CT E M_X5_within d [.int (v), .int (a), .int (b)] h (.inl (some (.int (wi v a b)))) h 0 0 := by
  refine CT.of (L := [some (.int (v)), some (.int (a)), some (.int (b))]) rfl rfl ?_
  refine AR.run g_X5_within_0_2 2 [some (.int (v)), some (.int (a)), some (.int (b))] [.int (a), .int (v)] _ [] rfl trivial ?_
  refine AR.lt2 (tgt := 14) dc_X5_within_2 (by decide) (fun c2_1 => ?_) (fun c2_1 => ?_)
  · refine AR.run g_X5_within_14_1 15 [some (.int (v)), some (.int (a)), some (.int (b))] [.int (nI (0))] _ [] rfl trivial ?_
    exact AR.retZ dc_X5_within_15 rfl (Or.inl rfl) (by simp only [wi, bi]; first | (rw [if_pos (by simp only [Int32.lt_iff_toInt_lt, Int32.le_iff_toInt_le, ← Int32.toInt_inj] at *; omega)]; rfl) | (rw [if_neg (by simp only [Int32.lt_iff_toInt_lt, Int32.le_iff_toInt_le, ← Int32.toInt_inj] at *; omega)]; rfl)) rfl
  · refine AR.run g_X5_within_5_2 7 [some (.int (v)), some (.int (a)), some (.int (b))] [.int (b), .int (v)] _ [] rfl trivial ?_
    refine AR.gt2 (tgt := 14) dc_X5_within_7 (by decide) (fun c7_2 => ?_) (fun c7_2 => ?_)
    · refine AR.run g_X5_within_14_1 15 [some (.int (v)), some (.int (a)), some (.int (b))] [.int (nI (0))] _ [] rfl trivial ?_
      exact AR.retZ dc_X5_within_15 rfl (Or.inl rfl) (by simp only [wi, bi]; first | (rw [if_pos (by simp only [Int32.lt_iff_toInt_lt, Int32.le_iff_toInt_le, ← Int32.toInt_inj] at *; omega)]; rfl) | (rw [if_neg (by simp only [Int32.lt_iff_toInt_lt, Int32.le_iff_toInt_le, ← Int32.toInt_inj] at *; omega)]; rfl)) rfl
    · refine AR.run g_X5_within_10_2 15 [some (.int (v)), some (.int (a)), some (.int (b))] [.int (nI (1))] _ [] rfl trivial ?_
      exact AR.retZ dc_X5_within_15 rfl (Or.inr rfl) (by simp only [wi, bi]; first | (rw [if_pos (by simp only [Int32.lt_iff_toInt_lt, Int32.le_iff_toInt_le, ← Int32.toInt_inj] at *; omega)]; rfl) | (rw [if_neg (by simp only [Int32.lt_iff_toInt_lt, Int32.le_iff_toInt_le, ← Int32.toInt_inj] at *; omega)]; rfl)) rfl
theorem g_X5_ofVolume_0_9 : ab_oks M_X5_ofVolume [(0, .aload_n 0, 1, 0, 0, 0, .null), (1, .getfield 7, 3, 5, 0, 936, .null), (4, .bipush 11, 2, 0, 0, 0, .int (nI (11))), (6, .bipush 7, 2, 0, 0, 0, .int (nI (7))), (8, .iload_n 1, 1, 1, 0, 0, .null), (9, .imul, 1, 0, 0, 0, .null), (10, .iadd, 1, 0, 0, 0, .null), (11, .iload_n 2, 1, 2, 0, 0, .null), (12, .iadd, 1, 0, 0, 0, .null)] = true := by decide +kernel
theorem ok_X5_ofVolume_13 : ab_ok M_X5_ofVolume (13, .iaload, 1, 0, 0, 0, .null) = true := by decide +kernel
theorem dc_X5_ofVolume_14 : decode (AM.bytes M_X5_ofVolume) 14 = .ok (.ireturn, 1) := by decide +kernel
set_option maxRecDepth 100000 in
set_option maxHeartbeats 4000000 in
theorem s_ofVolume {E : AE} (d : Nat) (v w : Nat) (h1 : v < 12) (h2 : w < 7) {o0 a0 t0 p0 u0 l0 : List AC} {z sa ro te fr to un ga pi be : Nat → Int32} {bm en sta sv ln th : Int32} {hh : Int64} : CT E M_X5_ofVolume d [.ref 16384, .int (nI (v)), .int (nI (w))] (hp o0 a0 t0 p0 (mo z sa ro te fr to un ga pi be bm en sta sv ln th hh) u0 l0) (.inl (some (.int (z (11 + 7 * v + w))))) (hp o0 a0 t0 p0 (mo z sa ro te fr to un ga pi be bm en sta sv ln th hh) u0 l0) 0 0 := by
  refine CT.of (L := [some (.ref 16384), some (.int (nI (v))), some (.int (nI (w)))]) rfl rfl ?_
  refine AR.run g_X5_ofVolume_0_9 13 [some (.ref 16384), some (.int (nI (v))), some (.int (nI (w)))] [.int (((nI (11)) + ((nI (7)) * (nI (v)))) + (nI (w))), .ref 16385] _ [] rfl trivial ?_
  refine AR.ald (n := 0) (e := ((11 + (7 * v)) + w)) ok_X5_ofVolume_13 (by first | rfl | (simp only [nI_add, pk_mul]; first | done | rfl)) rfl (by omega) (by first | decide | omega) ?_
  exact AR.retI dc_X5_ofVolume_14 rfl (by first | rfl | (simp only [nI_add, pk_mul]; first | done | rfl)) rfl
theorem g_X5_ofCradle_0_9 : ab_oks M_X5_ofCradle [(0, .aload_n 0, 1, 0, 0, 0, .null), (1, .getfield 7, 3, 5, 0, 936, .null), (4, .bipush 95, 2, 0, 0, 0, .int (nI (95))), (6, .iconst 4, 1, 0, 0, 0, .int (nI (4))), (7, .iload_n 1, 1, 1, 0, 0, .null), (8, .imul, 1, 0, 0, 0, .null), (9, .iadd, 1, 0, 0, 0, .null), (10, .iload_n 2, 1, 2, 0, 0, .null), (11, .iadd, 1, 0, 0, 0, .null)] = true := by decide +kernel
theorem ok_X5_ofCradle_12 : ab_ok M_X5_ofCradle (12, .iaload, 1, 0, 0, 0, .null) = true := by decide +kernel
theorem dc_X5_ofCradle_13 : decode (AM.bytes M_X5_ofCradle) 13 = .ok (.ireturn, 1) := by decide +kernel
set_option maxRecDepth 100000 in
set_option maxHeartbeats 4000000 in
theorem s_ofCradle {E : AE} (d : Nat) (v w : Nat) (h1 : v < 4) (h2 : w < 4) {o0 a0 t0 p0 u0 l0 : List AC} {z sa ro te fr to un ga pi be : Nat → Int32} {bm en sta sv ln th : Int32} {hh : Int64} : CT E M_X5_ofCradle d [.ref 16384, .int (nI (v)), .int (nI (w))] (hp o0 a0 t0 p0 (mo z sa ro te fr to un ga pi be bm en sta sv ln th hh) u0 l0) (.inl (some (.int (z (95 + 4 * v + w))))) (hp o0 a0 t0 p0 (mo z sa ro te fr to un ga pi be bm en sta sv ln th hh) u0 l0) 0 0 := by
  refine CT.of (L := [some (.ref 16384), some (.int (nI (v))), some (.int (nI (w)))]) rfl rfl ?_
  refine AR.run g_X5_ofCradle_0_9 12 [some (.ref 16384), some (.int (nI (v))), some (.int (nI (w)))] [.int (((nI (95)) + ((nI (4)) * (nI (v)))) + (nI (w))), .ref 16385] _ [] rfl trivial ?_
  refine AR.ald (n := 0) (e := ((95 + (4 * v)) + w)) ok_X5_ofCradle_12 (by first | rfl | (simp only [nI_add, pk_mul]; first | done | rfl)) rfl (by omega) (by first | decide | omega) ?_
  exact AR.retI dc_X5_ofCradle_13 rfl (by first | rfl | (simp only [nI_add, pk_mul]; first | done | rfl)) rfl
theorem g_X5_ofCarrier_0_9 : ab_oks M_X5_ofCarrier [(0, .aload_n 0, 1, 0, 0, 0, .null), (1, .getfield 7, 3, 5, 0, 936, .null), (4, .bipush 111, 2, 0, 0, 0, .int (nI (111))), (6, .iconst 4, 1, 0, 0, 0, .int (nI (4))), (7, .iload_n 1, 1, 1, 0, 0, .null), (8, .imul, 1, 0, 0, 0, .null), (9, .iadd, 1, 0, 0, 0, .null), (10, .iload_n 2, 1, 2, 0, 0, .null), (11, .iadd, 1, 0, 0, 0, .null)] = true := by decide +kernel
theorem ok_X5_ofCarrier_12 : ab_ok M_X5_ofCarrier (12, .iaload, 1, 0, 0, 0, .null) = true := by decide +kernel
theorem dc_X5_ofCarrier_13 : decode (AM.bytes M_X5_ofCarrier) 13 = .ok (.ireturn, 1) := by decide +kernel
set_option maxRecDepth 100000 in
set_option maxHeartbeats 4000000 in
theorem s_ofCarrier {E : AE} (d : Nat) (v w : Nat) (h1 : v < 3) (h2 : w < 4) {o0 a0 t0 p0 u0 l0 : List AC} {z sa ro te fr to un ga pi be : Nat → Int32} {bm en sta sv ln th : Int32} {hh : Int64} : CT E M_X5_ofCarrier d [.ref 16384, .int (nI (v)), .int (nI (w))] (hp o0 a0 t0 p0 (mo z sa ro te fr to un ga pi be bm en sta sv ln th hh) u0 l0) (.inl (some (.int (z (111 + 4 * v + w))))) (hp o0 a0 t0 p0 (mo z sa ro te fr to un ga pi be bm en sta sv ln th hh) u0 l0) 0 0 := by
  refine CT.of (L := [some (.ref 16384), some (.int (nI (v))), some (.int (nI (w)))]) rfl rfl ?_
  refine AR.run g_X5_ofCarrier_0_9 12 [some (.ref 16384), some (.int (nI (v))), some (.int (nI (w)))] [.int (((nI (111)) + ((nI (4)) * (nI (v)))) + (nI (w))), .ref 16385] _ [] rfl trivial ?_
  refine AR.ald (n := 0) (e := ((111 + (4 * v)) + w)) ok_X5_ofCarrier_12 (by first | rfl | (simp only [nI_add, pk_mul]; first | done | rfl)) rfl (by omega) (by first | decide | omega) ?_
  exact AR.retI dc_X5_ofCarrier_13 rfl (by first | rfl | (simp only [nI_add, pk_mul]; first | done | rfl)) rfl
theorem g_X5_ofLeaf_0_13 : ab_oks M_X5_ofLeaf [(0, .aload_n 0, 1, 0, 0, 0, .null), (1, .getfield 7, 3, 5, 0, 936, .null), (4, .sipush 423, 3, 0, 0, 0, .int (nI (423))), (7, .iconst 3, 1, 0, 0, 0, .int (nI (3))), (8, .bipush 40, 2, 0, 0, 0, .int (nI (40))), (10, .iload_n 1, 1, 1, 0, 0, .null), (11, .imul, 1, 0, 0, 0, .null), (12, .iload_n 2, 1, 2, 0, 0, .null), (13, .iadd, 1, 0, 0, 0, .null), (14, .imul, 1, 0, 0, 0, .null), (15, .iadd, 1, 0, 0, 0, .null), (16, .iload_n 3, 1, 3, 0, 0, .null), (17, .iadd, 1, 0, 0, 0, .null)] = true := by decide +kernel
theorem ok_X5_ofLeaf_18 : ab_ok M_X5_ofLeaf (18, .iaload, 1, 0, 0, 0, .null) = true := by decide +kernel
theorem dc_X5_ofLeaf_19 : decode (AM.bytes M_X5_ofLeaf) 19 = .ok (.ireturn, 1) := by decide +kernel
set_option maxRecDepth 100000 in
set_option maxHeartbeats 4000000 in
theorem s_ofLeaf {E : AE} (d : Nat) (v k w : Nat) (h1 : v < 12) (h2 : k < 40) (h3 : w < 3) {o0 a0 t0 p0 u0 l0 : List AC} {z sa ro te fr to un ga pi be : Nat → Int32} {bm en sta sv ln th : Int32} {hh : Int64} : CT E M_X5_ofLeaf d [.ref 16384, .int (nI (v)), .int (nI (k)), .int (nI (w))] (hp o0 a0 t0 p0 (mo z sa ro te fr to un ga pi be bm en sta sv ln th hh) u0 l0) (.inl (some (.int (z (423 + 3 * (40 * v + k) + w))))) (hp o0 a0 t0 p0 (mo z sa ro te fr to un ga pi be bm en sta sv ln th hh) u0 l0) 0 0 := by
  refine CT.of (L := [some (.ref 16384), some (.int (nI (v))), some (.int (nI (k))), some (.int (nI (w)))]) rfl rfl ?_
  refine AR.run g_X5_ofLeaf_0_13 18 [some (.ref 16384), some (.int (nI (v))), some (.int (nI (k))), some (.int (nI (w)))] [.int (((nI (423)) + ((nI (3)) * (((nI (40)) * (nI (v))) + (nI (k))))) + (nI (w))), .ref 16385] _ [] rfl trivial ?_
  refine AR.ald (n := 0) (e := ((423 + (3 * ((40 * v) + k))) + w)) ok_X5_ofLeaf_18 (by first | rfl | (simp only [nI_add, pk_mul]; first | done | rfl)) rfl (by omega) (by first | decide | omega) ?_
  exact AR.retI dc_X5_ofLeaf_19 rfl (by first | rfl | (simp only [nI_add, pk_mul]; first | done | rfl)) rfl
theorem g_X5_volumeOn_0_4 : ab_oks M_X5_volumeOn [(0, .iconst (-1), 1, 0, 0, 0, .int (-1)), (1, .istore_n 2, 1, 2, 0, 0, .null), (2, .iconst 0, 1, 0, 0, 0, .int (nI (0))), (3, .istore_n 3, 1, 3, 0, 0, .null)] = true := by decide +kernel
theorem g_X5_volumeOn_4_4 : ab_oks M_X5_volumeOn [(4, .iload_n 3, 1, 3, 0, 0, .null), (5, .aload_n 0, 1, 0, 0, 0, .null), (6, .getfield 7, 3, 5, 0, 936, .null), (9, .iconst 0, 1, 0, 0, 0, .int (nI (0)))] = true := by decide +kernel
theorem ok_X5_volumeOn_10 : ab_ok M_X5_volumeOn (10, .iaload, 1, 0, 0, 0, .null) = true := by decide +kernel
theorem dc_X5_volumeOn_11 : decode (AM.bytes M_X5_volumeOn) 11 = .ok (.if_icmp .ge 27, 3) := by decide +kernel
theorem g_X5_volumeOn_14_3 : ab_oks M_X5_volumeOn [(14, .aload_n 0, 1, 0, 0, 0, .null), (15, .iload_n 3, 1, 3, 0, 0, .null), (16, .iconst 5, 1, 0, 0, 0, .int (nI (5)))] = true := by decide +kernel
theorem lk_5_62 : ab_lkV "LeafCradlesModel" 62 M_X5_ofVolume 2 [1043, 1045, 39, 97, 1046] = true := by decide +kernel
theorem dc_X5_volumeOn_17 : decode (AM.bytes M_X5_volumeOn) 17 = .ok (.invokevirtual 62, 3) := by decide +kernel
theorem g_X5_volumeOn_20_3 : ab_oks M_X5_volumeOn [(20, .iconst 1, 1, 0, 0, 0, .int (nI (1))), (21, .isub, 1, 0, 0, 0, .null), (22, .iload_n 1, 1, 1, 0, 0, .null)] = true := by decide +kernel
theorem dc_X5_volumeOn_23 : decode (AM.bytes M_X5_volumeOn) 23 = .ok (.if_icmp .ne 7, 3) := by decide +kernel
theorem g_X5_volumeOn_30_4 : ab_oks M_X5_volumeOn [(30, .iload_n 2, 1, 2, 0, 0, .null), (31, .istore_n 2, 1, 2, 0, 0, .null), (32, .iinc 3 1, 3, 3, 0, 0, .int (nI (1))), (35, .goto (-31), 3, 4, 0, 0, .null)] = true := by decide +kernel
theorem g_X5_volumeOn_26_5 : ab_oks M_X5_volumeOn [(26, .iload_n 3, 1, 3, 0, 0, .null), (27, .goto 4, 3, 31, 0, 0, .null), (31, .istore_n 2, 1, 2, 0, 0, .null), (32, .iinc 3 1, 3, 3, 0, 0, .int (nI (1))), (35, .goto (-31), 3, 4, 0, 0, .null)] = true := by decide +kernel
theorem g_X5_volumeOn_38_1 : ab_oks M_X5_volumeOn [(38, .iload_n 2, 1, 2, 0, 0, .null)] = true := by decide +kernel
theorem dc_X5_volumeOn_39 : decode (AM.bytes M_X5_volumeOn) 39 = .ok (.ireturn, 1) := by decide +kernel
set_option maxRecDepth 100000 in
set_option maxHeartbeats 4000000 in
theorem s_volumeOn {E : AE} (d : Nat) (c : Int32) {nv : Nat} {o0 a0 t0 p0 u0 l0 : List AC} {z sa ro te fr to un ga pi be : Nat → Int32} {bm en sta sv ln th : Int32} {hh : Int64} (hnv : z 0 = nI nv) (h12 : nv ≤ 12) : CT E M_X5_volumeOn (d + 1) [.ref 16384, .int (c)] (hp o0 a0 t0 p0 (mo z sa ro te fr to un ga pi be bm en sta sv ln th hh) u0 l0) (.inl (some (.int (oI (vo z c nv))))) (hp o0 a0 t0 p0 (mo z sa ro te fr to un ga pi be bm en sta sv ln th hh) u0 l0) 0 0 := by
  refine CT.of (L := [some (.ref 16384), some (.int (c)), none, none]) rfl rfl ?_
  refine AR.run g_X5_volumeOn_0_4 4 [some (.ref 16384), some (.int (c)), some (.int (-1)), some (.int (nI (0)))] [] _ [] rfl trivial ?_
  refine AR.cast (L' := [some (.ref 16384), some (.int (c)), some (.int (oI (vo z c 0))), some (.int (nI (0)))]) rfl rfl rfl (AR.loopN nv (fun j1 => [some (.ref 16384), some (.int (c)), some (.int (oI (vo z c j1))), some (.int (nI (j1)))]) (fun j1 => (hp o0 a0 t0 p0 (mo z sa ro te fr to un ga pi be bm en sta sv ln th hh) u0 l0)) (fun j1 => True) (fun j1 hj4 hI4 ih4 => ?_) (fun hI4 => ?_) 0 (by omega) trivial)
  · refine AR.run g_X5_volumeOn_4_4 10 [some (.ref 16384), some (.int (c)), some (.int (oI (vo z c j1))), some (.int (nI (j1)))] [.int (nI (0)), .ref 16385, .int (nI (j1))] _ [] rfl trivial ?_
    refine AR.ald (n := 0) (e := 0) ok_X5_volumeOn_10 (by first | rfl | (simp only [nI_add, pk_mul]; first | done | rfl)) rfl (by omega) (by first | decide | omega) ?_
    refine AR.top hnv ?_
    refine AR.ge2N (tgt := 38) dc_X5_volumeOn_11 (by decide) (by first | rfl | (simp only [nI_add, pk_mul]; first | done | rfl)) (by first | rfl | (simp only [nI_add, pk_mul]; first | done | rfl)) (by omega) (by omega) (fun c11_2 => absurd c11_2 (by omega)) (fun c11_2 => ?_)
    refine AR.run g_X5_volumeOn_14_3 17 [some (.ref 16384), some (.int (c)), some (.int (oI (vo z c j1))), some (.int (nI (j1)))] [.int (nI (5)), .int (nI (j1)), .ref 16384] _ [] rfl trivial ?_
    refine AR.callV1 (16384) [.int (nI (j1)), .int (nI (5))] [] lk_5_62 dc_X5_volumeOn_17 rfl rfl (s_ofVolume _ j1 5 (by omega) (by omega)) (by first | rfl | (simp only [nI_add, pk_mul]; first | done | rfl)) rfl ?_
    refine AR.run g_X5_volumeOn_20_3 23 [some (.ref 16384), some (.int (c)), some (.int (oI (vo z c j1))), some (.int (nI (j1)))] [.int (c), .int ((z (11 + 7 * j1 + 5)) - (nI (1)))] _ [] rfl trivial ?_
    refine AR.ne2 (tgt := 30) dc_X5_volumeOn_23 (by decide) (fun c23_3 => ?_) (fun c23_3 => ?_)
    · refine AR.run g_X5_volumeOn_30_4 4 [some (.ref 16384), some (.int (c)), some (.int (oI (vo z c j1))), some (.int ((nI (j1)) + (nI (1))))] [] _ [] rfl trivial ?_
      exact AR.cast (L' := [some (.ref 16384), some (.int (c)), some (.int (oI (vo z c (j1 + 1)))), some (.int (nI ((j1 + 1))))]) (by first | (simp only [nI_add, vo]; rw [if_pos (by assumption)]; rfl) | (simp only [nI_add, vo]; rw [if_neg (by assumption)])) rfl rfl (ih4 trivial)
    · refine AR.run g_X5_volumeOn_26_5 4 [some (.ref 16384), some (.int (c)), some (.int (nI (j1))), some (.int ((nI (j1)) + (nI (1))))] [] _ [] rfl trivial ?_
      exact AR.cast (L' := [some (.ref 16384), some (.int (c)), some (.int (oI (vo z c (j1 + 1)))), some (.int (nI ((j1 + 1))))]) (by first | (simp only [nI_add, vo]; rw [if_pos (by assumption)]; rfl) | (simp only [nI_add, vo]; rw [if_neg (by assumption)])) rfl rfl (ih4 trivial)
  · refine AR.run g_X5_volumeOn_4_4 10 [some (.ref 16384), some (.int (c)), some (.int (oI (vo z c nv))), some (.int (nI (nv)))] [.int (nI (0)), .ref 16385, .int (nI (nv))] _ [] rfl trivial ?_
    refine AR.ald (n := 0) (e := 0) ok_X5_volumeOn_10 (by first | rfl | (simp only [nI_add, pk_mul]; first | done | rfl)) rfl (by omega) (by first | decide | omega) ?_
    refine AR.top hnv ?_
    refine AR.ge2N (tgt := 38) dc_X5_volumeOn_11 (by decide) (by first | rfl | (simp only [nI_add, pk_mul]; first | done | rfl)) (by first | rfl | (simp only [nI_add, pk_mul]; first | done | rfl)) (by omega) (by omega) (fun c11_4 => ?_) (fun c11_4 => absurd c11_4 (by omega))
    refine AR.run g_X5_volumeOn_38_1 39 [some (.ref 16384), some (.int (c)), some (.int (oI (vo z c nv))), some (.int (nI (nv)))] [.int (oI (vo z c nv))] _ [] rfl trivial ?_
    exact AR.retI dc_X5_volumeOn_39 rfl (by first | rfl | (simp only [nI_add, pk_mul]; first | done | rfl)) rfl
theorem g_X5_leavesWith_0_4 : ab_oks M_X5_leavesWith [(0, .iconst 0, 1, 0, 0, 0, .int (nI (0))), (1, .istore_n 3, 1, 3, 0, 0, .null), (2, .iconst 0, 1, 0, 0, 0, .int (nI (0))), (3, .istore 4, 2, 4, 0, 0, .null)] = true := by decide +kernel
theorem g_X5_leavesWith_5_4 : ab_oks M_X5_leavesWith [(5, .iload 4, 2, 4, 0, 0, .null), (7, .aload_n 0, 1, 0, 0, 0, .null), (8, .iload_n 1, 1, 1, 0, 0, .null), (9, .iconst 2, 1, 0, 0, 0, .int (nI (2)))] = true := by decide +kernel
theorem dc_X5_leavesWith_10 : decode (AM.bytes M_X5_leavesWith) 10 = .ok (.invokevirtual 62, 3) := by decide +kernel
theorem dc_X5_leavesWith_13 : decode (AM.bytes M_X5_leavesWith) 13 = .ok (.if_icmp .ge 29, 3) := by decide +kernel
theorem g_X5_leavesWith_16_5 : ab_oks M_X5_leavesWith [(16, .iload_n 3, 1, 3, 0, 0, .null), (17, .aload_n 0, 1, 0, 0, 0, .null), (18, .iload_n 1, 1, 1, 0, 0, .null), (19, .iload 4, 2, 4, 0, 0, .null), (21, .iconst 0, 1, 0, 0, 0, .int (nI (0)))] = true := by decide +kernel
theorem lk_5_65 : ab_lkV "LeafCradlesModel" 65 M_X5_ofLeaf 3 [1059, 1061, 43, 97, 1062] = true := by decide +kernel
theorem dc_X5_leavesWith_22 : decode (AM.bytes M_X5_leavesWith) 22 = .ok (.invokevirtual 65, 3) := by decide +kernel
theorem g_X5_leavesWith_25_1 : ab_oks M_X5_leavesWith [(25, .iload_n 2, 1, 2, 0, 0, .null)] = true := by decide +kernel
theorem dc_X5_leavesWith_26 : decode (AM.bytes M_X5_leavesWith) 26 = .ok (.if_icmp .ne 7, 3) := by decide +kernel
theorem g_X5_leavesWith_33_5 : ab_oks M_X5_leavesWith [(33, .iconst 0, 1, 0, 0, 0, .int (nI (0))), (34, .iadd, 1, 0, 0, 0, .null), (35, .istore_n 3, 1, 3, 0, 0, .null), (36, .iinc 4 1, 3, 4, 0, 0, .int (nI (1))), (39, .goto (-34), 3, 5, 0, 0, .null)] = true := by decide +kernel
theorem g_X5_leavesWith_29_6 : ab_oks M_X5_leavesWith [(29, .iconst 1, 1, 0, 0, 0, .int (nI (1))), (30, .goto 4, 3, 34, 0, 0, .null), (34, .iadd, 1, 0, 0, 0, .null), (35, .istore_n 3, 1, 3, 0, 0, .null), (36, .iinc 4 1, 3, 4, 0, 0, .int (nI (1))), (39, .goto (-34), 3, 5, 0, 0, .null)] = true := by decide +kernel
theorem g_X5_leavesWith_42_1 : ab_oks M_X5_leavesWith [(42, .iload_n 3, 1, 3, 0, 0, .null)] = true := by decide +kernel
theorem dc_X5_leavesWith_43 : decode (AM.bytes M_X5_leavesWith) 43 = .ok (.ireturn, 1) := by decide +kernel
set_option maxRecDepth 100000 in
set_option maxHeartbeats 4000000 in
theorem s_leavesWith {E : AE} (d : Nat) (v : Nat) (how : Int32) {n : Nat} {o0 a0 t0 p0 u0 l0 : List AC} {z sa ro te fr to un ga pi be : Nat → Int32} {bm en sta sv ln th : Int32} {hh : Int64} (hv : v < 12) (hn : z (11 + 7 * v + 2) = nI n) (h40 : n ≤ 40) : CT E M_X5_leavesWith (d + 1) [.ref 16384, .int (nI (v)), .int (how)] (hp o0 a0 t0 p0 (mo z sa ro te fr to un ga pi be bm en sta sv ln th hh) u0 l0) (.inl (some (.int (sumF (fun k => if z (423 + 3 * (40 * v + k) + 0) = how then nI 1 else nI 0) n)))) (hp o0 a0 t0 p0 (mo z sa ro te fr to un ga pi be bm en sta sv ln th hh) u0 l0) 0 0 := by
  refine CT.of (L := [some (.ref 16384), some (.int (nI (v))), some (.int (how)), none, none]) rfl rfl ?_
  refine AR.run g_X5_leavesWith_0_4 5 [some (.ref 16384), some (.int (nI (v))), some (.int (how)), some (.int (nI (0))), some (.int (nI (0)))] [] _ [] rfl trivial ?_
  refine AR.cast (L' := [some (.ref 16384), some (.int (nI (v))), some (.int (how)), some (.int (sumF (fun k => if z (423 + 3 * (40 * v + k) + 0) = how then nI 1 else nI 0) 0)), some (.int (nI (0)))]) rfl rfl rfl (AR.loopN n (fun j1 => [some (.ref 16384), some (.int (nI (v))), some (.int (how)), some (.int (sumF (fun k => if z (423 + 3 * (40 * v + k) + 0) = how then nI 1 else nI 0) j1)), some (.int (nI (j1)))]) (fun j1 => (hp o0 a0 t0 p0 (mo z sa ro te fr to un ga pi be bm en sta sv ln th hh) u0 l0)) (fun j1 => True) (fun j1 hj5 hI5 ih5 => ?_) (fun hI5 => ?_) 0 (by omega) trivial)
  · refine AR.run g_X5_leavesWith_5_4 10 [some (.ref 16384), some (.int (nI (v))), some (.int (how)), some (.int (sumF (fun k => if z (423 + 3 * (40 * v + k) + 0) = how then nI 1 else nI 0) j1)), some (.int (nI (j1)))] [.int (nI (2)), .int (nI (v)), .ref 16384, .int (nI (j1))] _ [] rfl trivial ?_
    refine AR.callV1 (16384) [.int (nI (v)), .int (nI (2))] [.int (nI (j1))] lk_5_62 dc_X5_leavesWith_10 rfl rfl (s_ofVolume _ v 2 (by omega) (by omega)) (by first | rfl | (simp only [nI_add, pk_mul]; first | done | rfl)) rfl ?_
    refine AR.top hn ?_
    refine AR.ge2N (tgt := 42) dc_X5_leavesWith_13 (by decide) (by first | rfl | (simp only [nI_add, pk_mul]; first | done | rfl)) (by first | rfl | (simp only [nI_add, pk_mul]; first | done | rfl)) (by omega) (by omega) (fun c13_2 => absurd c13_2 (by omega)) (fun c13_2 => ?_)
    refine AR.run g_X5_leavesWith_16_5 22 [some (.ref 16384), some (.int (nI (v))), some (.int (how)), some (.int (sumF (fun k => if z (423 + 3 * (40 * v + k) + 0) = how then nI 1 else nI 0) j1)), some (.int (nI (j1)))] [.int (nI (0)), .int (nI (j1)), .int (nI (v)), .ref 16384, .int (sumF (fun k => if z (423 + 3 * (40 * v + k) + 0) = how then nI 1 else nI 0) j1)] _ [] rfl trivial ?_
    refine AR.callV1 (16384) [.int (nI (v)), .int (nI (j1)), .int (nI (0))] [.int (sumF (fun k => if z (423 + 3 * (40 * v + k) + 0) = how then nI 1 else nI 0) j1)] lk_5_65 dc_X5_leavesWith_22 rfl rfl (s_ofLeaf _ v j1 0 (by omega) (by omega) (by omega)) (by first | rfl | (simp only [nI_add, pk_mul]; first | done | rfl)) rfl ?_
    refine AR.run g_X5_leavesWith_25_1 26 [some (.ref 16384), some (.int (nI (v))), some (.int (how)), some (.int (sumF (fun k => if z (423 + 3 * (40 * v + k) + 0) = how then nI 1 else nI 0) j1)), some (.int (nI (j1)))] [.int (how), .int (z (423 + 3 * (40 * v + j1) + 0)), .int (sumF (fun k => if z (423 + 3 * (40 * v + k) + 0) = how then nI 1 else nI 0) j1)] _ [] rfl trivial ?_
    refine AR.ne2 (tgt := 33) dc_X5_leavesWith_26 (by decide) (fun c26_3 => ?_) (fun c26_3 => ?_)
    · refine AR.run g_X5_leavesWith_33_5 5 [some (.ref 16384), some (.int (nI (v))), some (.int (how)), some (.int ((sumF (fun k => if z (423 + 3 * (40 * v + k) + 0) = how then nI 1 else nI 0) j1) + (nI (0)))), some (.int ((nI (j1)) + (nI (1))))] [] _ [] rfl trivial ?_
      exact AR.cast (L' := [some (.ref 16384), some (.int (nI (v))), some (.int (how)), some (.int (sumF (fun k => if z (423 + 3 * (40 * v + k) + 0) = how then nI 1 else nI 0) (j1 + 1))), some (.int (nI ((j1 + 1))))]) (by first | (simp only [nI_add, sumF]; rw [if_pos (by assumption)]) | (simp only [nI_add, sumF]; rw [if_neg (by assumption)])) rfl rfl (ih5 trivial)
    · refine AR.run g_X5_leavesWith_29_6 5 [some (.ref 16384), some (.int (nI (v))), some (.int (how)), some (.int ((sumF (fun k => if z (423 + 3 * (40 * v + k) + 0) = how then nI 1 else nI 0) j1) + (nI (1)))), some (.int ((nI (j1)) + (nI (1))))] [] _ [] rfl trivial ?_
      exact AR.cast (L' := [some (.ref 16384), some (.int (nI (v))), some (.int (how)), some (.int (sumF (fun k => if z (423 + 3 * (40 * v + k) + 0) = how then nI 1 else nI 0) (j1 + 1))), some (.int (nI ((j1 + 1))))]) (by first | (simp only [nI_add, sumF]; rw [if_pos (by assumption)]) | (simp only [nI_add, sumF]; rw [if_neg (by assumption)])) rfl rfl (ih5 trivial)
  · refine AR.run g_X5_leavesWith_5_4 10 [some (.ref 16384), some (.int (nI (v))), some (.int (how)), some (.int (sumF (fun k => if z (423 + 3 * (40 * v + k) + 0) = how then nI 1 else nI 0) n)), some (.int (nI (n)))] [.int (nI (2)), .int (nI (v)), .ref 16384, .int (nI (n))] _ [] rfl trivial ?_
    refine AR.callV1 (16384) [.int (nI (v)), .int (nI (2))] [.int (nI (n))] lk_5_62 dc_X5_leavesWith_10 rfl rfl (s_ofVolume _ v 2 (by omega) (by omega)) (by first | rfl | (simp only [nI_add, pk_mul]; first | done | rfl)) rfl ?_
    refine AR.top hn ?_
    refine AR.ge2N (tgt := 42) dc_X5_leavesWith_13 (by decide) (by first | rfl | (simp only [nI_add, pk_mul]; first | done | rfl)) (by first | rfl | (simp only [nI_add, pk_mul]; first | done | rfl)) (by omega) (by omega) (fun c13_4 => ?_) (fun c13_4 => absurd c13_4 (by omega))
    refine AR.run g_X5_leavesWith_42_1 43 [some (.ref 16384), some (.int (nI (v))), some (.int (how)), some (.int (sumF (fun k => if z (423 + 3 * (40 * v + k) + 0) = how then nI 1 else nI 0) n)), some (.int (nI (n)))] [.int (sumF (fun k => if z (423 + 3 * (40 * v + k) + 0) = how then nI 1 else nI 0) n)] _ [] rfl trivial ?_
    exact AR.retI dc_X5_leavesWith_43 rfl (by first | rfl | (simp only [nI_add, pk_mul]; first | done | rfl)) rfl
theorem g_X5_nextLeaf_0_5 : ab_oks M_X5_nextLeaf [(0, .iconst (-1), 1, 0, 0, 0, .int (-1)), (1, .istore_n 2, 1, 2, 0, 0, .null), (2, .aload_n 0, 1, 0, 0, 0, .null), (3, .iload_n 1, 1, 1, 0, 0, .null), (4, .iconst 2, 1, 0, 0, 0, .int (nI (2)))] = true := by decide +kernel
theorem dc_X5_nextLeaf_5 : decode (AM.bytes M_X5_nextLeaf) 5 = .ok (.invokevirtual 62, 3) := by decide +kernel
theorem g_X5_nextLeaf_8_3 : ab_oks M_X5_nextLeaf [(8, .iconst 1, 1, 0, 0, 0, .int (nI (1))), (9, .isub, 1, 0, 0, 0, .null), (10, .istore_n 3, 1, 3, 0, 0, .null)] = true := by decide +kernel
theorem g_X5_nextLeaf_11_1 : ab_oks M_X5_nextLeaf [(11, .iload_n 3, 1, 3, 0, 0, .null)] = true := by decide +kernel
theorem dc_X5_nextLeaf_12 : decode (AM.bytes M_X5_nextLeaf) 12 = .ok (.ifCond .lt 62, 3) := by decide +kernel
theorem g_X5_nextLeaf_15_4 : ab_oks M_X5_nextLeaf [(15, .aload_n 0, 1, 0, 0, 0, .null), (16, .iload_n 1, 1, 1, 0, 0, .null), (17, .iload_n 3, 1, 3, 0, 0, .null), (18, .iconst 0, 1, 0, 0, 0, .int (nI (0)))] = true := by decide +kernel
theorem dc_X5_nextLeaf_19 : decode (AM.bytes M_X5_nextLeaf) 19 = .ok (.invokevirtual 65, 3) := by decide +kernel
theorem g_X5_nextLeaf_22_3 : ab_oks M_X5_nextLeaf [(22, .istore 4, 2, 4, 0, 0, .null), (24, .iload 4, 2, 4, 0, 0, .null), (26, .iconst 2, 1, 0, 0, 0, .int (nI (2)))] = true := by decide +kernel
theorem dc_X5_nextLeaf_27 : decode (AM.bytes M_X5_nextLeaf) 27 = .ok (.if_icmp .eq 23, 3) := by decide +kernel
theorem g_X5_nextLeaf_50_4 : ab_oks M_X5_nextLeaf [(50, .iconst 1, 1, 0, 0, 0, .int (nI (1))), (51, .goto 4, 3, 55, 0, 0, .null), (55, .istore 5, 2, 5, 0, 0, .null), (57, .iload 5, 2, 5, 0, 0, .null)] = true := by decide +kernel
theorem dc_X5_nextLeaf_59 : decode (AM.bytes M_X5_nextLeaf) 59 = .ok (.ifCond .eq 7, 3) := by decide +kernel
theorem g_X5_nextLeaf_62_5 : ab_oks M_X5_nextLeaf [(62, .iload_n 3, 1, 3, 0, 0, .null), (63, .goto 4, 3, 67, 0, 0, .null), (67, .istore_n 2, 1, 2, 0, 0, .null), (68, .iinc 3 (-1), 3, 3, 0, 0, .int (-1)), (71, .goto (-60), 3, 11, 0, 0, .null)] = true := by decide +kernel
theorem g_X5_nextLeaf_30_1 : ab_oks M_X5_nextLeaf [(30, .iload 4, 2, 4, 0, 0, .null)] = true := by decide +kernel
theorem dc_X5_nextLeaf_32 : decode (AM.bytes M_X5_nextLeaf) 32 = .ok (.ifCond .ne 22, 3) := by decide +kernel
theorem g_X5_nextLeaf_54_3 : ab_oks M_X5_nextLeaf [(54, .iconst 0, 1, 0, 0, 0, .int (nI (0))), (55, .istore 5, 2, 5, 0, 0, .null), (57, .iload 5, 2, 5, 0, 0, .null)] = true := by decide +kernel
theorem g_X5_nextLeaf_66_4 : ab_oks M_X5_nextLeaf [(66, .iload_n 2, 1, 2, 0, 0, .null), (67, .istore_n 2, 1, 2, 0, 0, .null), (68, .iinc 3 (-1), 3, 3, 0, 0, .int (-1)), (71, .goto (-60), 3, 11, 0, 0, .null)] = true := by decide +kernel
theorem g_X5_nextLeaf_35_2 : ab_oks M_X5_nextLeaf [(35, .iload_n 2, 1, 2, 0, 0, .null), (36, .iconst (-1), 1, 0, 0, 0, .int (-1))] = true := by decide +kernel
theorem dc_X5_nextLeaf_37 : decode (AM.bytes M_X5_nextLeaf) 37 = .ok (.if_icmp .eq 13, 3) := by decide +kernel
theorem g_X5_nextLeaf_40_4 : ab_oks M_X5_nextLeaf [(40, .aload_n 0, 1, 0, 0, 0, .null), (41, .iload_n 1, 1, 1, 0, 0, .null), (42, .iload_n 2, 1, 2, 0, 0, .null), (43, .iconst 0, 1, 0, 0, 0, .int (nI (0)))] = true := by decide +kernel
theorem dc_X5_nextLeaf_44 : decode (AM.bytes M_X5_nextLeaf) 44 = .ok (.invokevirtual 65, 3) := by decide +kernel
theorem dc_X5_nextLeaf_47 : decode (AM.bytes M_X5_nextLeaf) 47 = .ok (.ifCond .ne 7, 3) := by decide +kernel
theorem g_X5_nextLeaf_74_1 : ab_oks M_X5_nextLeaf [(74, .iload_n 2, 1, 2, 0, 0, .null)] = true := by decide +kernel
theorem dc_X5_nextLeaf_75 : decode (AM.bytes M_X5_nextLeaf) 75 = .ok (.ireturn, 1) := by decide +kernel
set_option maxRecDepth 100000 in
set_option maxHeartbeats 4000000 in
theorem s_nextLeaf {E : AE} (d : Nat) (v : Nat) {n : Nat} {o0 a0 t0 p0 u0 l0 : List AC} {z sa ro te fr to un ga pi be : Nat → Int32} {bm en sta sv ln th : Int32} {hh : Int64} (hv : v < 12) (hn : z (11 + 7 * v + 2) = nI n) (h40 : n ≤ 40) : CT E M_X5_nextLeaf (d + 1) [.ref 16384, .int (nI (v))] (hp o0 a0 t0 p0 (mo z sa ro te fr to un ga pi be bm en sta sv ln th hh) u0 l0) (.inl (some (.int (oI (nlO z v n))))) (hp o0 a0 t0 p0 (mo z sa ro te fr to un ga pi be bm en sta sv ln th hh) u0 l0) 0 0 := by
  refine CT.of (L := [some (.ref 16384), some (.int (nI (v))), none, none, none, none]) rfl rfl ?_
  refine AR.run g_X5_nextLeaf_0_5 5 [some (.ref 16384), some (.int (nI (v))), some (.int (-1)), none, none, none] [.int (nI (2)), .int (nI (v)), .ref 16384] _ [] rfl trivial ?_
  refine AR.callV1 (16384) [.int (nI (v)), .int (nI (2))] [] lk_5_62 dc_X5_nextLeaf_5 rfl rfl (s_ofVolume _ v 2 (by omega) (by omega)) (by first | rfl | (simp only [nI_add, pk_mul]; first | done | rfl)) rfl ?_
  refine AR.top hn ?_
  refine AR.run g_X5_nextLeaf_8_3 11 [some (.ref 16384), some (.int (nI (v))), some (.int (-1)), some (.int ((nI (n)) - (nI (1)))), none, none] [] _ [] rfl trivial ?_
  refine AR.cast (L' := [some (.ref 16384), some (.int (nI (v))), some (.int (oI (nlB (cnd z v) (n - n) n))), some (.int (nI n - nI 1)), none, none]) (by rw [Nat.sub_self]; rfl) rfl rfl (AR.loopD (fun j1 => [some (.ref 16384), some (.int (nI (v))), some (.int (oI (nlB (cnd z v) (n - j1) j1))), some (.int (nI j1 - nI 1)), none, none]) (fun j1 => (hp o0 a0 t0 p0 (mo z sa ro te fr to un ga pi be bm en sta sv ln th hh) u0 l0)) (fun j1 => j1 ≤ n) (fun j1 hI11 ih11 => ?_) (fun hI11 => ?_) n (Nat.le_refl _))
  · refine AR.cast (L' := [some (.ref 16384), some (.int (nI (v))), some (.int (oI (nlB (cnd z v) (n - (j1 + 1)) (j1 + 1)))), some (.int (nI (j1))), none, none]) (by rw [nI_p1]) rfl rfl ?_
    refine AR.run g_X5_nextLeaf_11_1 12 [some (.ref 16384), some (.int (nI (v))), some (.int (oI (nlB (cnd z v) (n - (j1 + 1)) (j1 + 1)))), some (.int (nI (j1))), none, none] [.int (nI (j1))] _ [] rfl trivial ?_
    refine AR.ltN (tgt := 74) dc_X5_nextLeaf_12 (by decide) (by first | rfl | (simp only [nI_add, pk_mul]; first | done | rfl)) (by omega) (fun c12_2 => absurd c12_2 (by first | trivial | omega)) (fun c12_2 => ?_)
    refine AR.run g_X5_nextLeaf_15_4 19 [some (.ref 16384), some (.int (nI (v))), some (.int (oI (nlB (cnd z v) (n - (j1 + 1)) (j1 + 1)))), some (.int (nI (j1))), none, none] [.int (nI (0)), .int (nI (j1)), .int (nI (v)), .ref 16384] _ [] rfl trivial ?_
    refine AR.callV1 (16384) [.int (nI (v)), .int (nI (j1)), .int (nI (0))] [] lk_5_65 dc_X5_nextLeaf_19 rfl rfl (s_ofLeaf _ v j1 0 (by omega) (by omega) (by omega)) (by first | rfl | (simp only [nI_add, pk_mul]; first | done | rfl)) rfl ?_
    refine AR.run g_X5_nextLeaf_22_3 27 [some (.ref 16384), some (.int (nI (v))), some (.int (oI (nlB (cnd z v) (n - (j1 + 1)) (j1 + 1)))), some (.int (nI (j1))), some (.int (z (423 + 3 * (40 * v + j1) + 0))), none] [.int (nI (2)), .int (z (423 + 3 * (40 * v + j1) + 0))] _ [] rfl trivial ?_
    refine AR.eq2 (tgt := 50) dc_X5_nextLeaf_27 (by decide) (fun c27_3 => ?_) (fun c27_3 => ?_)
    · refine AR.run g_X5_nextLeaf_50_4 59 [some (.ref 16384), some (.int (nI (v))), some (.int (oI (nlB (cnd z v) (n - (j1 + 1)) (j1 + 1)))), some (.int (nI (j1))), some (.int (z (423 + 3 * (40 * v + j1) + 0))), some (.int (nI (1)))] [.int (nI (1))] _ [] rfl trivial ?_
      refine AR.eqN (tgt := 66) dc_X5_nextLeaf_59 (by decide) (by first | rfl | (simp only [nI_add, pk_mul]; first | done | rfl)) (by omega) (fun c59_4 => absurd c59_4 (by omega)) (fun c59_4 => ?_)
      refine AR.run g_X5_nextLeaf_62_5 11 [some (.ref 16384), some (.int (nI (v))), some (.int (nI (j1))), some (.int ((nI (j1)) + (-1))), some (.int (z (423 + 3 * (40 * v + j1) + 0))), some (.int (nI (1)))] [] _ [] rfl trivial ?_
      refine AR.drop (L' := [some (.ref 16384), some (.int (nI (v))), some (.int (nI (j1))), some (.int ((nI (j1)) + (-1))), none, none]) ⟨rfl, rfl, rfl, rfl, trivial⟩ ?_
      exact AR.cast (L' := [some (.ref 16384), some (.int (nI (v))), some (.int (oI (nlB (cnd z v) (n - j1) j1))), some (.int (nI j1 - nI 1)), none, none]) (by have e9 : n - j1 = n - (j1 + 1) + 1 := (by omega); rw [e9]; simp only [i_m1]; first | rw [nlB_2 (f := cnd z v) (by assumption)]; done | rw [nlB_0b (f := cnd z v) (by assumption) (by assumption) (by assumption)]; done | rw [nlB_0a (f := cnd z v) (by assumption) (oI_eq (by assumption) (fun q hq => by have := nlB_some hq; omega))]; done | rw [nlB_k2 (f := cnd z v) (by assumption) (by assumption) (by assumption)]; done | rw [nlB_k1 (f := cnd z v) (by assumption) (by assumption)]; done | rw [nlB_2 (f := cnd z v) (by assumption)]; rfl | rw [nlB_0b (f := cnd z v) (by assumption) (by assumption) (by assumption)]; rfl | rw [nlB_0a (f := cnd z v) (by assumption) (oI_eq (by assumption) (fun q hq => by have := nlB_some hq; omega))]; rfl | rw [nlB_k2 (f := cnd z v) (by assumption) (by assumption) (by assumption)]; rfl | rw [nlB_k1 (f := cnd z v) (by assumption) (by assumption)]; rfl) rfl rfl (ih11 (by omega))
    · refine AR.run g_X5_nextLeaf_30_1 32 [some (.ref 16384), some (.int (nI (v))), some (.int (oI (nlB (cnd z v) (n - (j1 + 1)) (j1 + 1)))), some (.int (nI (j1))), some (.int (z (423 + 3 * (40 * v + j1) + 0))), none] [.int (z (423 + 3 * (40 * v + j1) + 0))] _ [] rfl trivial ?_
      refine AR.ne (tgt := 54) dc_X5_nextLeaf_32 (by decide) (fun c32_5 => ?_) (fun c32_5 => ?_)
      · refine AR.run g_X5_nextLeaf_54_3 59 [some (.ref 16384), some (.int (nI (v))), some (.int (oI (nlB (cnd z v) (n - (j1 + 1)) (j1 + 1)))), some (.int (nI (j1))), some (.int (z (423 + 3 * (40 * v + j1) + 0))), some (.int (nI (0)))] [.int (nI (0))] _ [] rfl trivial ?_
        refine AR.eqN (tgt := 66) dc_X5_nextLeaf_59 (by decide) (by first | rfl | (simp only [nI_add, pk_mul]; first | done | rfl)) (by omega) (fun c59_6 => ?_) (fun c59_6 => absurd c59_6 (by omega))
        refine AR.run g_X5_nextLeaf_66_4 11 [some (.ref 16384), some (.int (nI (v))), some (.int (oI (nlB (cnd z v) (n - (j1 + 1)) (j1 + 1)))), some (.int ((nI (j1)) + (-1))), some (.int (z (423 + 3 * (40 * v + j1) + 0))), some (.int (nI (0)))] [] _ [] rfl trivial ?_
        refine AR.drop (L' := [some (.ref 16384), some (.int (nI (v))), some (.int (oI (nlB (cnd z v) (n - (j1 + 1)) (j1 + 1)))), some (.int ((nI (j1)) + (-1))), none, none]) ⟨rfl, rfl, rfl, rfl, trivial⟩ ?_
        exact AR.cast (L' := [some (.ref 16384), some (.int (nI (v))), some (.int (oI (nlB (cnd z v) (n - j1) j1))), some (.int (nI j1 - nI 1)), none, none]) (by have e9 : n - j1 = n - (j1 + 1) + 1 := (by omega); rw [e9]; simp only [i_m1]; first | rw [nlB_2 (f := cnd z v) (by assumption)]; done | rw [nlB_0b (f := cnd z v) (by assumption) (by assumption) (by assumption)]; done | rw [nlB_0a (f := cnd z v) (by assumption) (oI_eq (by assumption) (fun q hq => by have := nlB_some hq; omega))]; done | rw [nlB_k2 (f := cnd z v) (by assumption) (by assumption) (by assumption)]; done | rw [nlB_k1 (f := cnd z v) (by assumption) (by assumption)]; done | rw [nlB_2 (f := cnd z v) (by assumption)]; rfl | rw [nlB_0b (f := cnd z v) (by assumption) (by assumption) (by assumption)]; rfl | rw [nlB_0a (f := cnd z v) (by assumption) (oI_eq (by assumption) (fun q hq => by have := nlB_some hq; omega))]; rfl | rw [nlB_k2 (f := cnd z v) (by assumption) (by assumption) (by assumption)]; rfl | rw [nlB_k1 (f := cnd z v) (by assumption) (by assumption)]; rfl) rfl rfl (ih11 (by omega))
      · refine AR.run g_X5_nextLeaf_35_2 37 [some (.ref 16384), some (.int (nI (v))), some (.int (oI (nlB (cnd z v) (n - (j1 + 1)) (j1 + 1)))), some (.int (nI (j1))), some (.int (z (423 + 3 * (40 * v + j1) + 0))), none] [.int (-1), .int (oI (nlB (cnd z v) (n - (j1 + 1)) (j1 + 1)))] _ [] rfl trivial ?_
        refine AR.eq2 (tgt := 50) dc_X5_nextLeaf_37 (by decide) (fun c37_7 => ?_) (fun c37_7 => ?_)
        · refine AR.run g_X5_nextLeaf_50_4 59 [some (.ref 16384), some (.int (nI (v))), some (.int (oI (nlB (cnd z v) (n - (j1 + 1)) (j1 + 1)))), some (.int (nI (j1))), some (.int (z (423 + 3 * (40 * v + j1) + 0))), some (.int (nI (1)))] [.int (nI (1))] _ [] rfl trivial ?_
          refine AR.eqN (tgt := 66) dc_X5_nextLeaf_59 (by decide) (by first | rfl | (simp only [nI_add, pk_mul]; first | done | rfl)) (by omega) (fun c59_8 => absurd c59_8 (by omega)) (fun c59_8 => ?_)
          refine AR.run g_X5_nextLeaf_62_5 11 [some (.ref 16384), some (.int (nI (v))), some (.int (nI (j1))), some (.int ((nI (j1)) + (-1))), some (.int (z (423 + 3 * (40 * v + j1) + 0))), some (.int (nI (1)))] [] _ [] rfl trivial ?_
          refine AR.drop (L' := [some (.ref 16384), some (.int (nI (v))), some (.int (nI (j1))), some (.int ((nI (j1)) + (-1))), none, none]) ⟨rfl, rfl, rfl, rfl, trivial⟩ ?_
          exact AR.cast (L' := [some (.ref 16384), some (.int (nI (v))), some (.int (oI (nlB (cnd z v) (n - j1) j1))), some (.int (nI j1 - nI 1)), none, none]) (by have e9 : n - j1 = n - (j1 + 1) + 1 := (by omega); rw [e9]; simp only [i_m1]; first | rw [nlB_2 (f := cnd z v) (by assumption)]; done | rw [nlB_0b (f := cnd z v) (by assumption) (by assumption) (by assumption)]; done | rw [nlB_0a (f := cnd z v) (by assumption) (oI_eq (by assumption) (fun q hq => by have := nlB_some hq; omega))]; done | rw [nlB_k2 (f := cnd z v) (by assumption) (by assumption) (by assumption)]; done | rw [nlB_k1 (f := cnd z v) (by assumption) (by assumption)]; done | rw [nlB_2 (f := cnd z v) (by assumption)]; rfl | rw [nlB_0b (f := cnd z v) (by assumption) (by assumption) (by assumption)]; rfl | rw [nlB_0a (f := cnd z v) (by assumption) (oI_eq (by assumption) (fun q hq => by have := nlB_some hq; omega))]; rfl | rw [nlB_k2 (f := cnd z v) (by assumption) (by assumption) (by assumption)]; rfl | rw [nlB_k1 (f := cnd z v) (by assumption) (by assumption)]; rfl) rfl rfl (ih11 (by omega))
        · obtain ⟨q9, hq9⟩ := oI_ne (by assumption)
          have hq8 := nlB_some hq9
          · refine AR.cast (L' := [some (.ref 16384), some (.int (nI (v))), some (.int (nI (q9))), some (.int (nI (j1))), some (.int (z (423 + 3 * (40 * v + j1) + 0))), none]) (st' := []) (by rw [hq9]; rfl) rfl rfl ?_
            refine AR.run g_X5_nextLeaf_40_4 44 [some (.ref 16384), some (.int (nI (v))), some (.int (nI (q9))), some (.int (nI (j1))), some (.int (z (423 + 3 * (40 * v + j1) + 0))), none] [.int (nI (0)), .int (nI (q9)), .int (nI (v)), .ref 16384] _ [] rfl trivial ?_
            refine AR.callV1 (16384) [.int (nI (v)), .int (nI (q9)), .int (nI (0))] [] lk_5_65 dc_X5_nextLeaf_44 rfl rfl (s_ofLeaf _ v q9 0 (by omega) (by omega) (by omega)) (by first | rfl | (simp only [nI_add, pk_mul]; first | done | rfl)) rfl ?_
            refine AR.ne (tgt := 54) dc_X5_nextLeaf_47 (by decide) (fun c47_9 => ?_) (fun c47_9 => ?_)
            · refine AR.run g_X5_nextLeaf_54_3 59 [some (.ref 16384), some (.int (nI (v))), some (.int (nI (q9))), some (.int (nI (j1))), some (.int (z (423 + 3 * (40 * v + j1) + 0))), some (.int (nI (0)))] [.int (nI (0))] _ [] rfl trivial ?_
              refine AR.eqN (tgt := 66) dc_X5_nextLeaf_59 (by decide) (by first | rfl | (simp only [nI_add, pk_mul]; first | done | rfl)) (by omega) (fun c59_10 => ?_) (fun c59_10 => absurd c59_10 (by omega))
              refine AR.run g_X5_nextLeaf_66_4 11 [some (.ref 16384), some (.int (nI (v))), some (.int (nI (q9))), some (.int ((nI (j1)) + (-1))), some (.int (z (423 + 3 * (40 * v + j1) + 0))), some (.int (nI (0)))] [] _ [] rfl trivial ?_
              refine AR.drop (L' := [some (.ref 16384), some (.int (nI (v))), some (.int (nI (q9))), some (.int ((nI (j1)) + (-1))), none, none]) ⟨rfl, rfl, rfl, rfl, trivial⟩ ?_
              exact AR.cast (L' := [some (.ref 16384), some (.int (nI (v))), some (.int (oI (nlB (cnd z v) (n - j1) j1))), some (.int (nI j1 - nI 1)), none, none]) (by have e9 : n - j1 = n - (j1 + 1) + 1 := (by omega); rw [e9]; simp only [i_m1]; first | rw [nlB_2 (f := cnd z v) (by assumption)]; done | rw [nlB_0b (f := cnd z v) (by assumption) (by assumption) (by assumption)]; done | rw [nlB_0a (f := cnd z v) (by assumption) (oI_eq (by assumption) (fun q hq => by have := nlB_some hq; omega))]; done | rw [nlB_k2 (f := cnd z v) (by assumption) (by assumption) (by assumption)]; done | rw [nlB_k1 (f := cnd z v) (by assumption) (by assumption)]; done | rw [nlB_2 (f := cnd z v) (by assumption)]; rfl | rw [nlB_0b (f := cnd z v) (by assumption) (by assumption) (by assumption)]; rfl | rw [nlB_0a (f := cnd z v) (by assumption) (oI_eq (by assumption) (fun q hq => by have := nlB_some hq; omega))]; rfl | rw [nlB_k2 (f := cnd z v) (by assumption) (by assumption) (by assumption)]; rfl | rw [nlB_k1 (f := cnd z v) (by assumption) (by assumption)]; rfl) rfl rfl (ih11 (by omega))
            · refine AR.run g_X5_nextLeaf_50_4 59 [some (.ref 16384), some (.int (nI (v))), some (.int (nI (q9))), some (.int (nI (j1))), some (.int (z (423 + 3 * (40 * v + j1) + 0))), some (.int (nI (1)))] [.int (nI (1))] _ [] rfl trivial ?_
              refine AR.eqN (tgt := 66) dc_X5_nextLeaf_59 (by decide) (by first | rfl | (simp only [nI_add, pk_mul]; first | done | rfl)) (by omega) (fun c59_11 => absurd c59_11 (by omega)) (fun c59_11 => ?_)
              refine AR.run g_X5_nextLeaf_62_5 11 [some (.ref 16384), some (.int (nI (v))), some (.int (nI (j1))), some (.int ((nI (j1)) + (-1))), some (.int (z (423 + 3 * (40 * v + j1) + 0))), some (.int (nI (1)))] [] _ [] rfl trivial ?_
              refine AR.drop (L' := [some (.ref 16384), some (.int (nI (v))), some (.int (nI (j1))), some (.int ((nI (j1)) + (-1))), none, none]) ⟨rfl, rfl, rfl, rfl, trivial⟩ ?_
              exact AR.cast (L' := [some (.ref 16384), some (.int (nI (v))), some (.int (oI (nlB (cnd z v) (n - j1) j1))), some (.int (nI j1 - nI 1)), none, none]) (by have e9 : n - j1 = n - (j1 + 1) + 1 := (by omega); rw [e9]; simp only [i_m1]; first | rw [nlB_2 (f := cnd z v) (by assumption)]; done | rw [nlB_0b (f := cnd z v) (by assumption) (by assumption) (by assumption)]; done | rw [nlB_0a (f := cnd z v) (by assumption) (oI_eq (by assumption) (fun q hq => by have := nlB_some hq; omega))]; done | rw [nlB_k2 (f := cnd z v) (by assumption) (by assumption) (by assumption)]; done | rw [nlB_k1 (f := cnd z v) (by assumption) (by assumption)]; done | rw [nlB_2 (f := cnd z v) (by assumption)]; rfl | rw [nlB_0b (f := cnd z v) (by assumption) (by assumption) (by assumption)]; rfl | rw [nlB_0a (f := cnd z v) (by assumption) (oI_eq (by assumption) (fun q hq => by have := nlB_some hq; omega))]; rfl | rw [nlB_k2 (f := cnd z v) (by assumption) (by assumption) (by assumption)]; rfl | rw [nlB_k1 (f := cnd z v) (by assumption) (by assumption)]; rfl) rfl rfl (ih11 (by omega))
  · refine AR.run g_X5_nextLeaf_11_1 12 [some (.ref 16384), some (.int (nI (v))), some (.int (oI (nlB (cnd z v) (n - 0) 0))), some (.int (nI 0 - nI 1)), none, none] [.int (nI 0 - nI 1)] _ [] rfl trivial ?_
    refine AR.lt (tgt := 74) dc_X5_nextLeaf_12 (by decide) (fun c12_12 => ?_) (fun c12_12 => absurd c12_12 (by decide))
    refine AR.run g_X5_nextLeaf_74_1 75 [some (.ref 16384), some (.int (nI (v))), some (.int (oI (nlB (cnd z v) (n - 0) 0))), some (.int (nI 0 - nI 1)), none, none] [.int (oI (nlB (cnd z v) (n - 0) 0))] _ [] rfl trivial ?_
    exact AR.retI dc_X5_nextLeaf_75 rfl (by rw [Nat.sub_zero]) rfl
