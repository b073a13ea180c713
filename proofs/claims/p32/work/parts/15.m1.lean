theorem ru {f : Nat → Int32} {k j : Nat} {x : Int32} (h : j = k) : upd f k x j = x := by rw [h]; exact pk_us
theorem rn {f : Nat → Int32} {k j : Nat} {x : Int32} (h : j ≠ k) : upd f k x j = f j := pk_un h
/-- 1 where v lies from a to b, else 0 -/
def wi (v a b : Int32) : Int32 := if a ≤ v ∧ v ≤ b then 1 else 0
theorem wi01 (v a b : Int32) : wi v a b = 0 ∨ wi v a b = 1 := by unfold wi; split; exact Or.inr rfl; exact Or.inl rfl
def bi (p : Prop) [Decidable p] : Int32 := if p then 1 else 0
theorem bi01 (p : Prop) [Decidable p] : bi p = 0 ∨ bi p = 1 := by unfold bi; split; exact Or.inr rfl; exact Or.inl rfl
/-- a sum of n places -/
def sumF (f : Nat → Int32) : Nat → Int32
  | 0 => nI 0
  | n + 1 => sumF f n + f n
/-- the place of the first of n, from i on -/
def fi (p : Nat → Prop) [DecidablePred p] : Nat → Nat → Option Nat
  | 0, _ => none
  | n + 1, i => if p i then some i else fi p n (i + 1)
theorem fi_some {p : Nat → Prop} [DecidablePred p] : ∀ {n i q : Nat}, fi p n i = some q → i ≤ q ∧ q < i + n ∧ p q
  | 0, i, q, h => by simp [fi] at h
  | n + 1, i, q, h => by
    unfold fi at h
    split at h
    · cases h; exact ⟨Nat.le_refl _, by omega, by assumption⟩
    · have := fi_some h; exact ⟨by omega, by omega, this.2.2⟩
theorem fi_none {p : Nat → Prop} [DecidablePred p] : ∀ {n i : Nat}, fi p n i = none → ∀ q, i ≤ q → q < i + n → ¬ p q
  | 0, i, h, q, h1, h2 => by omega
  | n + 1, i, h, q, h1, h2 => by
    unfold fi at h
    split at h
    · cases h
    · rcases Nat.eq_or_lt_of_le h1 with e | e
      · subst e; assumption
      · exact fi_none h q e (by omega)
/-- NONE or a number -/
def oI : Option Nat → Int32
  | none => -1
  | some n => nI n
theorem oI_ne {o : Option Nat} (h : ¬ oI o = -1) : ∃ q, o = some q := by
  cases o with
  | none => exact absurd rfl h
  | some q => exact ⟨q, rfl⟩
theorem nI_m1 {q : Nat} (h : q < 2147483648) : ¬ nI q = -1 := by
  intro e
  have := congrArg Int32.toInt e
  rw [nI_toInt h] at this
  have h2 : (-1 : Int32).toInt = -1 := by decide
  rw [h2] at this
  omega
theorem oI_eq {o : Option Nat} (h : oI o = -1) (hb : ∀ q, o = some q → q < 2147483648) : o = none := by
  cases o with
  | none => rfl
  | some q => exact absurd h (nI_m1 (hb q rfl))
theorem oI_iff {o : Option Nat} (hb : ∀ q, o = some q → q < 2147483648) : oI o = -1 ↔ o = none := ⟨fun h => oI_eq h hb, fun h => by rw [h]; rfl⟩
/-- the volume on a cradle: the last one of n -/
def vo (z : Nat → Int32) (c : Int32) : Nat → Option Nat
  | 0 => none
  | n + 1 => if z (11 + 7 * n + 5) - nI 1 = c then some n else vo z c n
theorem vo_some {z : Nat → Int32} {c : Int32} : ∀ {n q : Nat}, vo z c n = some q → q < n ∧ z (11 + 7 * q + 5) - nI 1 = c
  | 0, q, h => by simp [vo] at h
  | n + 1, q, h => by
    unfold vo at h
    split at h
    · cases h; exact ⟨by omega, by assumption⟩
    · have := vo_some h; exact ⟨by omega, this.2⟩
theorem vo_cases (z : Nat → Int32) (c : Int32) (n : Nat) : vo z c n = none ∨ ∃ q, vo z c n = some q ∧ q < n := by
  cases h : vo z c n with
  | none => exact Or.inl rfl
  | some q => exact Or.inr ⟨q, rfl, (vo_some h).1⟩
/-- the leaf that comes next: the first faulty one, else the first that isn't scanned -/
def nlB (f : Nat → Int32) (m k : Nat) : Option Nat := match fi (fun j => f j = nI 2) m k with
  | some q => some q
  | none => fi (fun j => f j = nI 0) m k
theorem nlB_some {f : Nat → Int32} {m k q : Nat} (h : nlB f m k = some q) : k ≤ q ∧ q < k + m := by
  unfold nlB at h
  split at h
  · rename_i q' h'
    cases h
    have := fi_some h'
    exact ⟨this.1, this.2.1⟩
  · have := fi_some h
    exact ⟨this.1, this.2.1⟩
theorem nlB_2 {f : Nat → Int32} {m k : Nat} (h : f k = nI 2) : nlB f (m + 1) k = some k := by
  unfold nlB fi
  rw [if_pos h]
theorem nlB_k1 {f : Nat → Int32} {m k : Nat} (h2 : ¬ f k = nI 2) (h0 : ¬ f k = nI 0) : nlB f (m + 1) k = nlB f m (k + 1) := by
  unfold nlB
  rw [show fi (fun j => f j = nI 2) (m + 1) k = fi (fun j => f j = nI 2) m (k + 1) by rw [fi, if_neg h2], show fi (fun j => f j = nI 0) (m + 1) k = fi (fun j => f j = nI 0) m (k + 1) by rw [fi, if_neg h0]]
theorem nlB_0a {f : Nat → Int32} {m k : Nat} (h0 : f k = nI 0) (h : nlB f m (k + 1) = none) : nlB f (m + 1) k = some k := by
  have h2 : ¬ f k = nI 2 := by rw [h0]; decide
  have h3 : fi (fun j => f j = nI 2) m (k + 1) = none := by
    unfold nlB at h
    split at h
    · cases h
    · assumption
  unfold nlB
  rw [show fi (fun j => f j = nI 2) (m + 1) k = none by rw [fi, if_neg h2]; exact h3]
  dsimp only
  rw [fi, if_pos h0]
theorem nlB_0b {f : Nat → Int32} {m k q : Nat} (h0 : f k = nI 0) (h : nlB f m (k + 1) = some q) (hq : f q = nI 0) : nlB f (m + 1) k = some k := by
  have h2 : ¬ f k = nI 2 := by rw [h0]; decide
  have h3 : fi (fun j => f j = nI 2) m (k + 1) = none := by
    unfold nlB at h
    split at h
    · rename_i q' h'
      cases h
      have := (fi_some h').2.2
      rw [hq] at this
      exact absurd this (by decide)
    · assumption
  unfold nlB
  rw [show fi (fun j => f j = nI 2) (m + 1) k = none by rw [fi, if_neg h2]; exact h3]
  dsimp only
  rw [fi, if_pos h0]
theorem nlB_k2 {f : Nat → Int32} {m k q : Nat} (h0 : f k = nI 0) (h : nlB f m (k + 1) = some q) (hq : ¬ f q = nI 0) : nlB f (m + 1) k = some q := by
  have h2 : ¬ f k = nI 2 := by rw [h0]; decide
  have h3 : fi (fun j => f j = nI 2) m (k + 1) = some q := by
    unfold nlB at h
    split at h
    · rename_i q' h'
      cases h
      exact h'
    · exact absurd (fi_some h).2.2 hq
  unfold nlB
  rw [show fi (fun j => f j = nI 2) (m + 1) k = some q by rw [fi, if_neg h2]; exact h3]
abbrev cnd (z : Nat → Int32) (v : Nat) : Nat → Int32 := fun k => z (423 + 3 * (40 * v + k) + 0)
abbrev nlO (z : Nat → Int32) (v n : Nat) : Option Nat := nlB (cnd z v) n 0
def lv (z : Nat → Int32) (v : Nat) : Nat := (z (11 + 7 * v + 2)).toNatClampNeg
theorem nlO_iff {z : Nat → Int32} {v n : Nat} (h : n ≤ 40) : oI (nlO z v n) = -1 ↔ nlO z v n = none := oI_iff fun q hq => by have := nlB_some hq; omega
abbrev LV (z : Nat → Int32) (nv : Nat) : Prop := ∀ v, v < nv → z (11 + 7 * v + 2) = nI (lv z v) ∧ lv z v ≤ 40
theorem CT.ret {E : AE} {M : AM} {d : Nat} {av : List Value} {h : AH} {a b : Int32} {h' : AH} {mc ms : Nat} (hc : CT E M d av h (.inl (some (.int a))) h' mc ms) (e : a = b) : CT E M d av h (.inl (some (.int b))) h' mc ms := by rw [← e]; exact hc
