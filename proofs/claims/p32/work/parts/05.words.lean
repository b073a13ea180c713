/-! the words that may be handed on -/
def ab_W : List Cond := lw_tbl.filter goodWord
theorem ab_W_good {w : Cond} (h : w ∈ ab_W) : (w.onTables && w.keeps) = true ∨ ∃ ty, w = .arrayClass ty := good_of_word (List.mem_filter.mp h).2
def ab_at (i : Nat) (w : Cond) : Bool := decide (lw_tbl[i]? = some w) && goodWord w
theorem ab_at_mem {i : Nat} {w : Cond} (h : ab_at i w = true) : w ∈ ab_W := by
  unfold ab_at at h
  rw [Bool.and_eq_true, decide_eq_true_eq] at h
  exact List.mem_filter.mpr ⟨List.mem_of_getElem? h.1, h.2⟩
def ab_ats : List Nat → List Cond → Bool
  | [], [] => true
  | i :: is, w :: ws => ab_at i w && ab_ats is ws
  | _, _ => false
theorem ab_ats_mem : ∀ {is : List Nat} {ws : List Cond}, ab_ats is ws = true → ∀ w ∈ ws, w ∈ ab_W
  | [], [], _ => fun w h => nomatch h
  | i :: is, x :: ws, h => fun w hw => by
    unfold ab_ats at h
    rw [Bool.and_eq_true] at h
    rcases List.mem_cons.mp hw with e | e
    · rw [e]; exact ab_at_mem h.1
    · exact ab_ats_mem h.2 w e
  | [], _ :: _, h => by simp [ab_ats] at h
  | _ :: _, [], h => by simp [ab_ats] at h
theorem ab_lay0 : ab_ats [97, 99, 101, 103, 105, 107, 109, 111] (u_ws RX0 TX0 8) = true := by decide +kernel
theorem ab_ini0 : ab_ats [51, 30] [.instantiable RX0 8, .initialized RX0] = true := by decide +kernel
theorem ab_lay1 : ab_ats [131, 133, 135, 137, 139, 141, 143, 145, 147] (u_ws RX1 TX1 9) = true := by decide +kernel
theorem ab_ini1 : ab_ats [115, 33] [.instantiable RX1 9, .initialized RX1] = true := by decide +kernel
theorem ab_lay2 : ab_ats [162, 164, 166, 168] (u_ws RX2 TX2 4) = true := by decide +kernel
theorem ab_ini2 : ab_ats [151, 34] [.instantiable RX2 4, .initialized RX2] = true := by decide +kernel
theorem ab_lay3 : ab_ats [75, 77, 79, 81] (u_ws RX3 TX3 4) = true := by decide +kernel
theorem ab_ini3 : ab_ats [57, 31] [.instantiable RX3 4, .initialized RX3] = true := by decide +kernel
theorem ab_lay4 : ab_ats [174, 176, 178] (u_ws RX4 TX4 3) = true := by decide +kernel
theorem ab_ini4 : ab_ats [43, 29] [.instantiable RX4 3, .initialized RX4] = true := by decide +kernel
/-- what the tables say of the class with this number -/
def ab_ty (ci : Nat) : Nat → FieldType := match ci with
  | 0 => tyX0
  | 1 => tyX1
  | 2 => tyX2
  | 3 => tyX3
  | _ => tyX4
theorem ab_cls : ∀ (ci : Nat) (C : String) (T : u_T) (N : Nat), vwCl[ci]? = some (C, T, N) → (∀ w ∈ u_ws C T N, w ∈ ab_W) ∧ Cond.instantiable C N ∈ ab_W ∧ Cond.initialized C ∈ ab_W ∧ (∀ k, k < N → parseFieldDescriptor (T k).2.2.1 = some (ab_ty ci k)) ∧ (∀ a, a < N → ∀ b, b < N → a ≠ b → (T a).2.1 ≠ (T b).2.1) ∧ ∀ k, k < N → (T k).1 = C := by
  intro ci C T N h
  match ci, h with
  | 0, h => cases h; exact ⟨ab_ats_mem ab_lay0, ab_ats_mem ab_ini0 _ (by simp), ab_ats_mem ab_ini0 _ (by simp), tyX0_ok, nmX0, by decide +kernel⟩
  | 1, h => cases h; exact ⟨ab_ats_mem ab_lay1, ab_ats_mem ab_ini1 _ (by simp), ab_ats_mem ab_ini1 _ (by simp), tyX1_ok, nmX1, by decide +kernel⟩
  | 2, h => cases h; exact ⟨ab_ats_mem ab_lay2, ab_ats_mem ab_ini2 _ (by simp), ab_ats_mem ab_ini2 _ (by simp), tyX2_ok, nmX2, by decide +kernel⟩
  | 3, h => cases h; exact ⟨ab_ats_mem ab_lay3, ab_ats_mem ab_ini3 _ (by simp), ab_ats_mem ab_ini3 _ (by simp), tyX3_ok, nmX3, by decide +kernel⟩
  | 4, h => cases h; exact ⟨ab_ats_mem ab_lay4, ab_ats_mem ab_ini4 _ (by simp), ab_ats_mem ab_ini4 _ (by simp), tyX4_ok, nmX4, by decide +kernel⟩
  | _ + 5, h => simp [vwCl] at h
/-- static fields that nobody writes: class, name, descriptor, the old array's reference -/
def ab_stF : List (String × String × String × Nat) := [("LeafCradles", "LEAST_SETTING", "[I", 1), ("LeafCradles", "GREATEST_SETTING", "[I", 2)]
def ab_strs : List (String × Nat × String) := [("LeafCradles", 252, "an argument is out of range"), ("LeafCradles", 256, "there is none with this number"), ("LeafCradles", 40, "there are 12 volumes"), ("LeafCradles", 52, "there are 4 cradles"), ("LeafCradles", 58, "there are 3 carriers"), ("LeafCradles", 91, "there is a reason against it"), ("LeafCradles", 100, "it cannot be brought back by this carrier now"), ("LeafCradles", 105, "the number of the minute would be above 20000"), ("LeafCradles", 116, "the leaf is not good"), ("LeafCradles", 124, "the buffer has 60 characters"), ("LeafCradles", 141, "the buffer is not a complete list of bars"), ("LeafCradles", 147, "the volume does not have all of these leaves")]
def ab_nc : List (String × String) := []
def ab_exs : List String := ["java/lang/IllegalArgumentException", "java/lang/IllegalStateException", "java/lang/IndexOutOfBoundsException"]
def ab_decls : List MethodName := [⟨"java/lang/RuntimeException", "<init>", "()V"⟩, ⟨"java/lang/RuntimeException", "<init>", "(Ljava/lang/String;)V"⟩, ⟨"java/lang/Exception", "<init>", "()V"⟩, ⟨"java/lang/Exception", "<init>", "(Ljava/lang/String;)V"⟩, ⟨"java/lang/Throwable", "<init>", "()V"⟩, ⟨"java/lang/Throwable", "<init>", "(Ljava/lang/String;)V"⟩]
def ab_nest : List (Nat × MethodName) := [(18, ⟨"LeafCradles$BarText", "<init>", "()V"⟩), (25, ⟨"LeafCradles$LoadPlan", "<init>", "()V"⟩)]
/-- the words of the JDK's own methods -/
def ab_jw : Nat → Bool := fun a => match a with
  | 1 => ab_ats [69, 32, 70] [.static Lib.Math.max.name, .initialized "java/lang/Math", .code Lib.Math.max.name Lib.Math.max.code 2 (some .int)]
  | 2 => ab_ats [66, 32, 67] [.static Lib.Math.min.name, .initialized "java/lang/Math", .code Lib.Math.min.name Lib.Math.min.code 2 (some .int)]
  | 3 => ab_ats [503, 32, 504] [.static Lib.Math.abs.name, .initialized "java/lang/Math", .code Lib.Math.abs.name Lib.Math.abs.code 1 (some .int)]
  | 4 => ab_ats [457, 40, 458] [.static arraycopyName, .initialized "java/lang/System", .native arraycopyName]
  | 5 => ab_ats [48, 49] [.instanceMethod Lib.objectInit, .code Lib.objectInit ⟨#[0xb1]⟩ 1 none]
  | _ => false
