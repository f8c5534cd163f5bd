/-! the abstract machine as a calculus: WP at a point, Sp of a whole call; numbers as integers -/
def vI (z : Int) : Value := .int (Int32.ofInt z)
def vL (z : Int) : Value := .long (Int64.ofInt z)
theorem q_step_le {O O' : q_O} (h : ∀ y vs X r, O y vs X = some r → O' y vs X = some r) {y : Nat} {i : Instr} {c : q_C} {z : q_C ⊕ q_Rs} (hs : q_step O y i c = some z) : q_step O' y i c = some z := by
  have hb : ∀ {y vs X rest c}, q_back (O y vs X) rest c = some z → q_back (O' y vs X) rest c = some z := by
    intro y vs X rest c hq
    unfold q_back at hq
    split at hq
    · rename_i v X' ho
      rw [h _ _ _ _ ho]
      exact hq
    · cases hq
  have hv : ∀ {y n c}, q_callv O y n c = some z → q_callv O' y n c = some z := by
    intro y n c hq
    unfold q_callv at hq ⊢
    split at hq
    · rename_i a rest he
      split at hq
      · rename_i hc
        rw [if_pos hc]
        exact hb hq
      · cases hq
    · cases hq
  have hss : ∀ {y n c}, q_calls O y n c = some z → q_calls O' y n c = some z := by
    intro y n c hq
    unfold q_calls at hq ⊢
    split at hq
    · rename_i hc
      rw [if_pos hc]
      exact hb hq
    · cases hq
  cases i with
  | invokespecial k =>
    simp only [q_step, q_inp] at hs ⊢
    split at hs
    · rename_i y' n' _ he; exact hv hs
    · rename_i y' n' _ he; exact hv hs
    · rename_i he; exact hs
    · cases hs
  | invokestatic k =>
    simp only [q_step, q_ins] at hs ⊢
    split at hs
    · rename_i y' n' _ he; exact hss hs
    · rename_i he; exact hs
    · rename_i he; exact hs
    · rename_i he; exact hs
    · rename_i he; exact hs
    · cases hs
  | invokevirtual k =>
    simp only [q_step, q_inv] at hs ⊢
    split at hs
    · rename_i y' n' _ he; exact hv hs
    · cases hs
  | _ => exact hs
theorem q_go_le {O O' : q_O} (h : ∀ y vs X r, O y vs X = some r → O' y vs X = some r) {y : Nat} : ∀ {k k' : Nat} {c : q_C} {r : q_Rs}, k ≤ k' → q_go O y k c = some r → q_go O' y k' c = some r := by
  intro k
  induction k with
  | zero => intro k' c r _ h1; cases h1
  | succ k ih =>
    intro k' c r hk h1
    obtain ⟨j, rfl⟩ : ∃ j, k' = j + 1 := ⟨k' - 1, by omega⟩
    unfold q_go at h1 ⊢
    split at h1
    · cases h1
    · rename_i i hf
      split at h1
      · cases h1
      · rename_i c' hs
        rw [q_step_le h hs]
        exact ih (by omega) h1
      · rename_i r' hs
        rw [q_step_le h hs]
        exact h1
theorem q_run_le {n n' : Nat} (hn : n ≤ n') : ∀ {d d' : Nat}, d ≤ d' → ∀ y vs X r, q_run n d y vs X = some r → q_run n' d' y vs X = some r := by
  intro d
  induction d with
  | zero => intro d' _ y vs X r h; cases h
  | succ d ih =>
    intro d' hd y vs X r h
    obtain ⟨j, rfl⟩ : ∃ j, d' = j + 1 := ⟨d' - 1, by omega⟩
    unfold q_run at h ⊢
    split at h
    · rename_i hc
      rw [if_pos hc]
      exact q_go_le (ih (by omega)) hn h
    · cases h
/-- method y, called at depth d with vs over X, answers r and leaves X' -/
def Sp (d y : Nat) (vs : List Value) (X : q_H) (r : Option Value) (X' : q_H) : Prop := ∃ n, q_run n d y vs X = some (r, X')
theorem Sp.mono {d d' y : Nat} {vs : List Value} {X X' : q_H} {r : Option Value} (h : Sp d y vs X r X') (hd : d ≤ d') : Sp d' y vs X r X' := h.imp fun n h => q_run_le (Nat.le_refl n) hd _ _ _ _ h
/-- from the point on, the method (whose calls have depth d) comes to an answer with Q -/
def WP (d y pc : Nat) (ls st : List Value) (X : q_H) (Q : Option Value → q_H → Prop) : Prop := ∃ n k r X', q_go (q_run n d) y k (pc, ls, st, X) = some (r, X') ∧ Q r X'
theorem Sp.of {d y : Nat} {vs : List Value} {X X' : q_H} {r : Option Value} (hl : (q_args vs).length ≤ q_ml y) (h : WP d y 0 (q_entry (q_ml y) vs) [] X (fun r' X1 => r' = r ∧ X1 = X')) : Sp (d + 1) y vs X r X' := by
  obtain ⟨n, k, r1, X1, h1, rfl, rfl⟩ := h
  refine ⟨max n k, ?_⟩
  unfold q_run
  rw [if_pos hl]
  exact q_go_le (q_run_le (Nat.le_max_left n k) (Nat.le_refl d)) (Nat.le_max_right n k) h1
theorem Sp.ofE {d y : Nat} {vs : List Value} {X : q_H} {Q : Option Value → q_H → Prop} (hl : (q_args vs).length ≤ q_ml y) (h : WP d y 0 (q_entry (q_ml y) vs) [] X Q) : ∃ r X', Sp (d + 1) y vs X r X' ∧ Q r X' := by
  obtain ⟨n, k, r1, X1, h1, hq⟩ := h
  exact ⟨r1, X1, Sp.of hl ⟨n, k, r1, X1, h1, rfl, rfl⟩, hq⟩
theorem w_step {d y pc : Nat} {ls st : List Value} {X : q_H} {Q : Option Value → q_H → Prop} {i : Instr} {n pc' : Nat} {ls' st' : List Value} {X' : q_H} (hf : q_fetch y pc = some (i, n)) (hs : ∀ O, q_step O y i (pc, ls, st, X) = some (.inl (pc', ls', st', X'))) : WP d y pc ls st X Q = WP d y pc' ls' st' X' Q := by
  refine propext ⟨fun h => ?_, fun h => ?_⟩
  · obtain ⟨n, k, r, X1, h1, hq⟩ := h
    cases k with
    | zero => cases h1
    | succ k =>
      unfold q_go at h1
      simp only [hf, hs] at h1
      exact ⟨n, k, r, X1, h1, hq⟩
  · obtain ⟨n, k, r, X1, h1, hq⟩ := h
    refine ⟨n, k + 1, r, X1, ?_, hq⟩
    unfold q_go
    simp only [hf, hs]
    exact h1
theorem w_ret {d y pc : Nat} {ls st : List Value} {X : q_H} {Q : Option Value → q_H → Prop} {i : Instr} {n : Nat} {r : Option Value} {X' : q_H} (hf : q_fetch y pc = some (i, n)) (hs : ∀ O, q_step O y i (pc, ls, st, X) = some (.inr (r, X'))) : WP d y pc ls st X Q = Q r X' := by
  refine propext ⟨fun h => ?_, fun h => ?_⟩
  · obtain ⟨n, k, r, X1, h1, hq⟩ := h
    cases k with
    | zero => cases h1
    | succ k =>
      unfold q_go at h1
      simp only [hf, hs] at h1
      cases h1
      exact hq
  · refine ⟨0, 1, r, X', ?_, h⟩
    unfold q_go
    simp only [hf, hs]
/-- a call whose effect is known -/
theorem w_call {d y pc : Nat} {ls st : List Value} {X : q_H} {Q : Option Value → q_H → Prop} {i : Instr} {n pc' z : Nat} {rest vs : List Value} {X' : q_H} {r : Option Value} (hf : q_fetch y pc = some (i, n)) (hs : ∀ O, q_step O y i (pc, ls, st, X) = (match O z vs X with
    | some (v, X1) => some (.inl (pc', ls, v.toList ++ rest, X1))
    | none => none)) (hS : Sp d z vs X r X') : WP d y pc ls st X Q = WP d y pc' ls (r.toList ++ rest) X' Q := by
  obtain ⟨n0, hn0⟩ := hS
  refine propext ⟨fun h => ?_, fun h => ?_⟩
  · obtain ⟨n, k, r1, X1, h1, hq⟩ := h
    cases k with
    | zero => cases h1
    | succ k =>
      have h2 := q_go_le (q_run_le (Nat.le_max_left n n0) (Nat.le_refl d)) (Nat.le_refl _) h1
      have h3 := q_run_le (Nat.le_max_right n n0) (Nat.le_refl d) _ _ _ _ hn0
      unfold q_go at h2
      simp only [hf, hs, h3] at h2
      exact ⟨_, k, r1, X1, h2, hq⟩
  · obtain ⟨n, k, r1, X1, h1, hq⟩ := h
    have h2 := q_go_le (q_run_le (Nat.le_max_left n n0) (Nat.le_refl d)) (Nat.le_refl _) h1
    have h3 := q_run_le (Nat.le_max_right n n0) (Nat.le_refl d) _ _ _ _ hn0
    refine ⟨max n n0, k + 1, r1, X1, ?_, hq⟩
    unfold q_go
    simp only [hf, hs, h3]
    exact h2
theorem WP.imp {d y pc : Nat} {ls st : List Value} {X : q_H} {Q Q' : Option Value → q_H → Prop} (h : WP d y pc ls st X Q) (hq : ∀ r X, Q r X → Q' r X) : WP d y pc ls st X Q' := by
  obtain ⟨n, k, r, X1, h1, h2⟩ := h
  exact ⟨n, k, r, X1, h1, hq _ _ h2⟩
/-! integers -/
theorem i32_t {a : Int} (h : -2147483648 ≤ a ∧ a ≤ 2147483647) : (Int32.ofInt a).toInt = a := Int32.toInt_ofInt_of_le (by omega) (by omega)
theorem i64_t {a : Int} (h : -9223372036854775808 ≤ a ∧ a ≤ 9223372036854775807) : (Int64.ofInt a).toInt = a := Int64.toInt_ofInt_of_le (by omega) (by omega)
def nL (v : Value) : Bool := match v with
  | .long _ => false
  | .double _ => false
  | _ => true
def iand (a b : Int) : Int := (Int32.ofInt a &&& Int32.ofInt b).toInt
def ior (a b : Int) : Int := (Int32.ofInt a ||| Int32.ofInt b).toInt
def ixor (a b : Int) : Int := (Int32.ofInt a ^^^ Int32.ofInt b).toInt
def ishl (a b : Int) : Int := (Int32.ofInt a <<< (Int32.ofInt b &&& 31)).toInt
def ishr (a b : Int) : Int := (Int32.ofInt a >>> (Int32.ofInt b &&& 31)).toInt
def iushr (a b : Int) : Int := (((Int32.ofInt a).toUInt32 >>> ((Int32.ofInt b).toUInt32 &&& Int32.toUInt32 31)).toInt32).toInt
def i2b (a : Int) : Int := ((Int32.ofInt a).toInt8.toInt32).toInt
def i2s (a : Int) : Int := ((Int32.ofInt a).toInt16.toInt32).toInt
def i2c (a : Int) : Int := (((Int32.ofInt a).toUInt32 % 65536).toInt32).toInt
def lshl (a b : Int) : Int := (Int64.ofInt a <<< ((Int32.ofInt b).toInt64 &&& 63)).toInt
def land (a b : Int) : Int := (Int64.ofInt a &&& Int64.ofInt b).toInt
def lor (a b : Int) : Int := (Int64.ofInt a ||| Int64.ofInt b).toInt
def l2i (a : Int) : Int := (Int64.ofInt a).toInt32.toInt
theorem vI_t (x : Int32) : vI x.toInt = .int x := by unfold vI; rw [Int32.ofInt_toInt]
theorem vL_t (x : Int64) : vL x.toInt = .long x := by unfold vL; rw [Int64.ofInt_toInt]
def up (M : Nat → Nat → Value) (a k : Nat) (v : Value) : Nat → Nat → Value := fun b j => if b = a ∧ j = k then v else M b j
/-- a cell of kind ci that has the place k -/
def isk (a ci k : Nat) : Bool := decide ((q_sh a).1 = ci) && decide (k < (q_sh a).2)
theorem isk_of {a ci k : Nat} (h : isk a ci k = true) : (q_sh a).1 = ci ∧ k < (q_sh a).2 := by
  unfold isk at h
  simp only [Bool.and_eq_true, decide_eq_true_eq] at h
  exact h
section WPI
variable {d y pc n : Nat} {ls st : List Value} {N L : Nat} {M : Nat → Nat → Value} {X : q_H} {Q : Option Value → q_H → Prop}
theorem w_iconst {z : Int} (hf : q_fetch y pc = some (.iconst z, n)) : WP d y pc ls st X Q = WP d y (pc + 1) ls (vI z :: st) X Q := w_step hf fun _ => rfl
theorem w_bipush {z : Int} (hf : q_fetch y pc = some (.bipush z, n)) (h : (Int8.ofInt z).toInt32 = Int32.ofInt z) : WP d y pc ls st X Q = WP d y (pc + 2) ls (vI z :: st) X Q := w_step hf fun _ => by simp only [q_step, q_push, h]; rfl
theorem w_sipush {z : Int} (hf : q_fetch y pc = some (.sipush z, n)) (h : (Int16.ofInt z).toInt32 = Int32.ofInt z) : WP d y pc ls st X Q = WP d y (pc + 3) ls (vI z :: st) X Q := w_step hf fun _ => by simp only [q_step, q_push, h]; rfl
theorem w_lconst {z : Fin 2} (hf : q_fetch y pc = some (.lconst z, n)) {w : Int} (h : Int64.ofNat z.1 = Int64.ofInt w) : WP d y pc ls st X Q = WP d y (pc + 1) ls (vL w :: st) X Q := w_step hf fun _ => by simp only [q_step, q_push, h]; rfl
theorem w_ldc {i m : Nat} {a b : Nat} {z : Int} (hf : q_fetch y pc = some (.ldc i, n)) (hp : q_pool (q_mo y) i = some (7, a, b, vI z)) : WP d y pc ls st X Q = WP d y (pc + 2) ls (vI z :: st) X Q := w_step hf fun _ => by simp only [q_step, q_ldc, hp]; rfl
theorem w_ldcw {i : Nat} {a b : Nat} {z : Int} (hf : q_fetch y pc = some (.ldc_w i, n)) (hp : q_pool (q_mo y) i = some (7, a, b, vI z)) : WP d y pc ls st X Q = WP d y (pc + 3) ls (vI z :: st) X Q := w_step hf fun _ => by simp only [q_step, q_ldc, hp]; rfl
theorem w_ldcs {i : Nat} {a b : Nat} {v : Value} (hf : q_fetch y pc = some (.ldc i, n)) (hp : q_pool (q_mo y) i = some (9, a, b, v)) : WP d y pc ls st X Q = WP d y (pc + 2) ls (.ref a :: st) X Q := w_step hf fun _ => by simp only [q_step, q_ldc, hp]; rfl
theorem w_ldc2 {i : Nat} {a b : Nat} {z : Int} (hf : q_fetch y pc = some (.ldc2_w i, n)) (hp : q_pool (q_mo y) i = some (8, a, b, vL z)) : WP d y pc ls st X Q = WP d y (pc + 3) ls (vL z :: st) X Q := w_step hf fun _ => by simp only [q_step, q_ldc2, hp]; rfl
theorem w_iload {k : Nat} {z : Int} (hf : q_fetch y pc = some (.iload k, n)) (h : ls[k]? = some (vI z)) : WP d y pc ls st X Q = WP d y (pc + 2) ls (vI z :: st) X Q := w_step hf fun _ => by simp only [q_step, q_ldi, h]; rfl
theorem w_iload_n {k : Fin 4} {z : Int} (hf : q_fetch y pc = some (.iload_n k, n)) (h : ls[k.1]? = some (vI z)) : WP d y pc ls st X Q = WP d y (pc + 1) ls (vI z :: st) X Q := w_step hf fun _ => by simp only [q_step, q_ldi, h]; rfl
theorem w_lload {k : Nat} {z : Int} (hf : q_fetch y pc = some (.lload k, n)) (h : ls[k]? = some (vL z)) : WP d y pc ls st X Q = WP d y (pc + 2) ls (vL z :: st) X Q := w_step hf fun _ => by simp only [q_step, q_ldl, h]; rfl
theorem w_lload_n {k : Fin 4} {z : Int} (hf : q_fetch y pc = some (.lload_n k, n)) (h : ls[k.1]? = some (vL z)) : WP d y pc ls st X Q = WP d y (pc + 1) ls (vL z :: st) X Q := w_step hf fun _ => by simp only [q_step, q_ldl, h]; rfl
theorem w_aload {k a : Nat} (hf : q_fetch y pc = some (.aload k, n)) (h : ls[k]? = some (.ref a)) (ha : a ≠ 1004) : WP d y pc ls st X Q = WP d y (pc + 2) ls (.ref a :: st) X Q := w_step hf fun _ => by simp only [q_step, q_lda, h, if_neg ha]; rfl
theorem w_aload_n {k : Fin 4} {a : Nat} (hf : q_fetch y pc = some (.aload_n k, n)) (h : ls[k.1]? = some (.ref a)) (ha : a ≠ 1004) : WP d y pc ls st X Q = WP d y (pc + 1) ls (.ref a :: st) X Q := w_step hf fun _ => by simp only [q_step, q_lda, h, if_neg ha]; rfl
theorem q_okb_0 {ls : List Value} : q_okb ls 0 = true := rfl
theorem q_okb_s {ls : List Value} {k : Nat} {v : Value} (h : ls[k]? = some v) (hv : nL v = true) : q_okb ls (k + 1) = true := by
  simp only [q_okb, h]
  cases v <;> first | rfl | (exact absurd hv (by decide)) | cases hv
theorem w_istore {k : Nat} {z : Int} {ls' : List Value} (hf : q_fetch y pc = some (.istore k, n)) (hk : q_okb ls k = true) (hl : k < ls.length) (hs : ls.set k (vI z) = ls') : WP d y pc ls (vI z :: st) X Q = WP d y (pc + 2) ls' st X Q := by
  subst hs
  exact w_step hf fun _ => by simp only [q_step, q_sti, vI, q_set1, q_to, hl, hk, and_self, if_true]
theorem w_istore_n {k : Fin 4} {z : Int} {ls' : List Value} (hf : q_fetch y pc = some (.istore_n k, n)) (hk : q_okb ls k.1 = true) (hl : k.1 < ls.length) (hs : ls.set k.1 (vI z) = ls') : WP d y pc ls (vI z :: st) X Q = WP d y (pc + 1) ls' st X Q := by
  subst hs
  exact w_step hf fun _ => by simp only [q_step, q_sti, vI, q_set1, q_to, hl, hk, and_self, if_true]
theorem w_astore {k a : Nat} {ls' : List Value} (hf : q_fetch y pc = some (.astore k, n)) (ha : a ≠ 1004) (hk : q_okb ls k = true) (hl : k < ls.length) (hs : ls.set k (.ref a) = ls') : WP d y pc ls (.ref a :: st) X Q = WP d y (pc + 2) ls' st X Q := by
  subst hs
  exact w_step hf fun _ => by simp only [q_step, q_sta, if_neg ha, q_set1, q_to, hl, hk, and_self, if_true]
theorem w_astore_n {k : Fin 4} {a : Nat} {ls' : List Value} (hf : q_fetch y pc = some (.astore_n k, n)) (ha : a ≠ 1004) (hk : q_okb ls k.1 = true) (hl : k.1 < ls.length) (hs : ls.set k.1 (.ref a) = ls') : WP d y pc ls (.ref a :: st) X Q = WP d y (pc + 1) ls' st X Q := by
  subst hs
  exact w_step hf fun _ => by simp only [q_step, q_sta, if_neg ha, q_set1, q_to, hl, hk, and_self, if_true]
theorem w_iinc {k : Nat} {z w : Int} {ls' : List Value} (hf : q_fetch y pc = some (.iinc k w, n)) (h : ls[k]? = some (vI z)) (hk : q_okb ls k = true) (hl : k < ls.length) (hs : ls.set k (vI (z + w)) = ls') : WP d y pc ls st X Q = WP d y (pc + 3) ls' st X Q := by
  subst hs
  exact w_step hf fun _ => by
    have e : vI (z + w) = .int (Int32.ofInt z + Int32.ofInt w) := by unfold vI; rw [Int32.ofInt_add]
    simp only [q_step, q_inc, h, vI, q_set1, q_to, hl, hk, and_self, if_true, Int32.ofInt_add]
theorem w_iadd {a b : Int} (hf : q_fetch y pc = some (.iadd, n)) : WP d y pc ls (vI b :: vI a :: st) X Q = WP d y (pc + 1) ls (vI (a + b) :: st) X Q := w_step hf fun _ => by simp only [q_step, q_bin, vI, Int32.ofInt_add]
theorem w_isub {a b : Int} (hf : q_fetch y pc = some (.isub, n)) : WP d y pc ls (vI b :: vI a :: st) X Q = WP d y (pc + 1) ls (vI (a - b) :: st) X Q := w_step hf fun _ => by simp only [q_step, q_bin, vI, Int32.ofInt_sub]
theorem w_imul {a b : Int} (hf : q_fetch y pc = some (.imul, n)) : WP d y pc ls (vI b :: vI a :: st) X Q = WP d y (pc + 1) ls (vI (a * b) :: st) X Q := w_step hf fun _ => by simp only [q_step, q_bin, vI, Int32.ofInt_mul]
theorem w_ineg {a : Int} (hf : q_fetch y pc = some (.ineg, n)) : WP d y pc ls (vI a :: st) X Q = WP d y (pc + 1) ls (vI (-a) :: st) X Q := w_step hf fun _ => by simp only [q_step, q_un, vI, Int32.ofInt_neg]
theorem w_bin2 {f : Int32 → Int32 → Int32} {g : Int → Int → Int} {i : Instr} {a b : Int} (hf : q_fetch y pc = some (i, n)) (hi : ∀ O c, q_step O y i c = q_bin f c) (hg : ∀ a b, f (Int32.ofInt a) (Int32.ofInt b) = Int32.ofInt (g a b)) : WP d y pc ls (vI b :: vI a :: st) X Q = WP d y (pc + 1) ls (vI (g a b) :: st) X Q := w_step hf fun O => by rw [hi]; simp only [q_bin, vI, hg]
theorem w_iand {a b : Int} (hf : q_fetch y pc = some (.iand, n)) : WP d y pc ls (vI b :: vI a :: st) X Q = WP d y (pc + 1) ls (vI (iand a b) :: st) X Q := w_bin2 hf (fun _ _ => rfl) fun a b => (Int32.ofInt_toInt _).symm
theorem w_ior {a b : Int} (hf : q_fetch y pc = some (.ior, n)) : WP d y pc ls (vI b :: vI a :: st) X Q = WP d y (pc + 1) ls (vI (ior a b) :: st) X Q := w_bin2 hf (fun _ _ => rfl) fun a b => (Int32.ofInt_toInt _).symm
theorem w_ixor {a b : Int} (hf : q_fetch y pc = some (.ixor, n)) : WP d y pc ls (vI b :: vI a :: st) X Q = WP d y (pc + 1) ls (vI (ixor a b) :: st) X Q := w_bin2 hf (fun _ _ => rfl) fun a b => (Int32.ofInt_toInt _).symm
theorem w_ishl {a b : Int} (hf : q_fetch y pc = some (.ishl, n)) : WP d y pc ls (vI b :: vI a :: st) X Q = WP d y (pc + 1) ls (vI (ishl a b) :: st) X Q := w_bin2 hf (fun _ _ => rfl) fun a b => (Int32.ofInt_toInt _).symm
theorem w_ishr {a b : Int} (hf : q_fetch y pc = some (.ishr, n)) : WP d y pc ls (vI b :: vI a :: st) X Q = WP d y (pc + 1) ls (vI (ishr a b) :: st) X Q := w_bin2 hf (fun _ _ => rfl) fun a b => (Int32.ofInt_toInt _).symm
theorem w_iushr {a b : Int} (hf : q_fetch y pc = some (.iushr, n)) : WP d y pc ls (vI b :: vI a :: st) X Q = WP d y (pc + 1) ls (vI (iushr a b) :: st) X Q := w_bin2 hf (fun _ _ => rfl) fun a b => (Int32.ofInt_toInt _).symm
theorem w_un2 {f : Int32 → Int32} {g : Int → Int} {i : Instr} {a : Int} (hf : q_fetch y pc = some (i, n)) (hi : ∀ O c, q_step O y i c = q_un f c) (hg : ∀ a, f (Int32.ofInt a) = Int32.ofInt (g a)) : WP d y pc ls (vI a :: st) X Q = WP d y (pc + 1) ls (vI (g a) :: st) X Q := w_step hf fun O => by rw [hi]; simp only [q_un, vI, hg]
theorem w_i2b {a : Int} (hf : q_fetch y pc = some (.i2b, n)) : WP d y pc ls (vI a :: st) X Q = WP d y (pc + 1) ls (vI (i2b a) :: st) X Q := w_un2 hf (fun _ _ => rfl) fun a => (Int32.ofInt_toInt _).symm
theorem w_i2s {a : Int} (hf : q_fetch y pc = some (.i2s, n)) : WP d y pc ls (vI a :: st) X Q = WP d y (pc + 1) ls (vI (i2s a) :: st) X Q := w_un2 hf (fun _ _ => rfl) fun a => (Int32.ofInt_toInt _).symm
theorem w_i2c {a : Int} (hf : q_fetch y pc = some (.i2c, n)) : WP d y pc ls (vI a :: st) X Q = WP d y (pc + 1) ls (vI (i2c a) :: st) X Q := w_un2 hf (fun _ _ => rfl) fun a => (Int32.ofInt_toInt _).symm
theorem i32_div {a b : Int} (ha : 0 ≤ a ∧ a ≤ 2147483647) (hb : 0 < b ∧ b ≤ 2147483647) : Int32.ofInt a / Int32.ofInt b = Int32.ofInt (a / b) := by
  apply Int32.toInt_inj.mp
  have h1 : a / b ≤ a := Int.ediv_le_self _ ha.1
  have h2 : 0 ≤ a / b := Int.ediv_nonneg ha.1 (by omega)
  rw [Int32.toInt_div_of_ne_right _ _ (fun h => by
    have := congrArg Int32.toInt h
    rw [i32_t (by omega)] at this
    have h9 : ((-1 : Int32)).toInt = -1 := by decide
    omega), i32_t (by omega), i32_t (by omega), i32_t (by omega), Int.tdiv_eq_ediv_of_nonneg ha.1]
theorem w_idiv {a b : Int} (hf : q_fetch y pc = some (.idiv, n)) (ha : 0 ≤ a ∧ a ≤ 2147483647) (hb : 0 < b ∧ b ≤ 2147483647) : WP d y pc ls (vI b :: vI a :: st) X Q = WP d y (pc + 1) ls (vI (a / b) :: st) X Q := w_step hf fun O => by
  have h0 : ¬ (Int32.ofInt b).toInt = 0 := by rw [i32_t (by omega)]; omega
  simp only [q_step, q_div, vI, if_neg h0, i32_div ha hb]
theorem w_irem {a b : Int} (hf : q_fetch y pc = some (.irem, n)) (ha : 0 ≤ a ∧ a ≤ 2147483647) (hb : 0 < b ∧ b ≤ 2147483647) : WP d y pc ls (vI b :: vI a :: st) X Q = WP d y (pc + 1) ls (vI (a % b) :: st) X Q := w_step hf fun O => by
  have h0 : ¬ (Int32.ofInt b).toInt = 0 := by rw [i32_t (by omega)]; omega
  have h1 : Int32.ofInt a - Int32.ofInt a / Int32.ofInt b * Int32.ofInt b = Int32.ofInt (a % b) := by
    rw [i32_div ha hb, ← Int32.ofInt_mul, ← Int32.ofInt_sub, Int.emod_def, Int.mul_comm]
  simp only [q_step, q_div, vI, if_neg h0, h1]
theorem w_dup {v : Value} (hf : q_fetch y pc = some (.dup, n)) (h : v.category = 1) : WP d y pc ls (v :: st) X Q = WP d y (pc + 1) ls (v :: v :: st) X Q := w_step hf fun _ => by simp only [q_step, q_dup, h, if_true]
theorem w_dup2 {v w : Value} (hf : q_fetch y pc = some (.dup2, n)) (h : v.category = 1) (h2 : w.category = 1) : WP d y pc ls (v :: w :: st) X Q = WP d y (pc + 1) ls (v :: w :: v :: w :: st) X Q := w_step hf fun _ => by simp only [q_step, q_dup2, h, h2, and_self, if_true]
theorem w_pop {v : Value} (hf : q_fetch y pc = some (.pop, n)) (h : v.category = 1) : WP d y pc ls (v :: st) X Q = WP d y (pc + 1) ls st X Q := w_step hf fun _ => by simp only [q_step, q_pop, h, if_true]
theorem w_goto {o : Int} {t : Nat} (hf : q_fetch y pc = some (.goto o, n)) (ht : 0 ≤ (pc : Int) + o ∧ ((pc : Int) + o).toNat = t) : WP d y pc ls st X Q = WP d y t ls st X Q := w_step hf fun _ => by simp only [q_step, q_jmp, ht.1, if_true, ht.2]
theorem w_cj {i : Instr} {b : Bool} {P : Prop} [Decidable P] {o : Int} {t : Nat} {st' : List Value} (hf : q_fetch y pc = some (i, n)) (hi : ∀ O, q_step O y i (pc, ls, st, X) = q_cj b o st' (pc, ls, st, X)) (hb : b = decide P) (ht : 0 ≤ (pc : Int) + o ∧ ((pc : Int) + o).toNat = t) : WP d y pc ls st X Q = if P then WP d y t ls st' X Q else WP d y (pc + 3) ls st' X Q := by
  by_cases h : P
  · rw [if_pos h]
    exact w_step hf fun O => by rw [hi O]; simp only [q_cj, ht.1, if_true, hb, decide_eq_true h, ht.2]
  · rw [if_neg h]
    exact w_step hf fun O => by rw [hi O]; simp [q_cj, ht.1, hb, h]
theorem w_ifeq {a o : Int} {t : Nat} (hf : q_fetch y pc = some (.ifCond .eq o, n)) (ht : 0 ≤ (pc : Int) + o ∧ ((pc : Int) + o).toNat = t) (ha : -2147483648 ≤ a ∧ a ≤ 2147483647) : WP d y pc ls (vI a :: st) X Q = if a = 0 then WP d y t ls st X Q else WP d y (pc + 3) ls st X Q := w_cj hf (fun _ => rfl) (by simp only [q_cmp, i32_t ha]) ht
theorem w_ifne {a o : Int} {t : Nat} (hf : q_fetch y pc = some (.ifCond .ne o, n)) (ht : 0 ≤ (pc : Int) + o ∧ ((pc : Int) + o).toNat = t) (ha : -2147483648 ≤ a ∧ a ≤ 2147483647) : WP d y pc ls (vI a :: st) X Q = if a = 0 then WP d y (pc + 3) ls st X Q else WP d y t ls st X Q := by
  rw [w_cj (P := ¬ a = 0) hf (fun _ => rfl) (by simp only [q_cmp, i32_t ha, decide_not]) ht, ite_not]
theorem w_iflt {a o : Int} {t : Nat} (hf : q_fetch y pc = some (.ifCond .lt o, n)) (ht : 0 ≤ (pc : Int) + o ∧ ((pc : Int) + o).toNat = t) (ha : -2147483648 ≤ a ∧ a ≤ 2147483647) : WP d y pc ls (vI a :: st) X Q = if a < 0 then WP d y t ls st X Q else WP d y (pc + 3) ls st X Q := w_cj hf (fun _ => rfl) (by simp only [q_cmp, i32_t ha]) ht
theorem w_ifge {a o : Int} {t : Nat} (hf : q_fetch y pc = some (.ifCond .ge o, n)) (ht : 0 ≤ (pc : Int) + o ∧ ((pc : Int) + o).toNat = t) (ha : -2147483648 ≤ a ∧ a ≤ 2147483647) : WP d y pc ls (vI a :: st) X Q = if a < 0 then WP d y (pc + 3) ls st X Q else WP d y t ls st X Q := by
  rw [w_cj (P := ¬ a < 0) hf (fun _ => rfl) (by simp only [q_cmp, i32_t ha, decide_not]) ht, ite_not]
theorem w_ifgt {a o : Int} {t : Nat} (hf : q_fetch y pc = some (.ifCond .gt o, n)) (ht : 0 ≤ (pc : Int) + o ∧ ((pc : Int) + o).toNat = t) (ha : -2147483648 ≤ a ∧ a ≤ 2147483647) : WP d y pc ls (vI a :: st) X Q = if 0 < a then WP d y t ls st X Q else WP d y (pc + 3) ls st X Q := w_cj hf (fun _ => rfl) (by simp only [q_cmp, i32_t ha]) ht
theorem w_ifle {a o : Int} {t : Nat} (hf : q_fetch y pc = some (.ifCond .le o, n)) (ht : 0 ≤ (pc : Int) + o ∧ ((pc : Int) + o).toNat = t) (ha : -2147483648 ≤ a ∧ a ≤ 2147483647) : WP d y pc ls (vI a :: st) X Q = if 0 < a then WP d y (pc + 3) ls st X Q else WP d y t ls st X Q := by
  rw [w_cj (P := ¬ 0 < a) hf (fun _ => rfl) (by simp only [q_cmp, i32_t ha, decide_not]) ht, ite_not]
theorem w_icmpeq {a b o : Int} {t : Nat} (hf : q_fetch y pc = some (.if_icmp .eq o, n)) (ht : 0 ≤ (pc : Int) + o ∧ ((pc : Int) + o).toNat = t) (ha : -2147483648 ≤ a ∧ a ≤ 2147483647) (hb : -2147483648 ≤ b ∧ b ≤ 2147483647) : WP d y pc ls (vI b :: vI a :: st) X Q = if a = b then WP d y t ls st X Q else WP d y (pc + 3) ls st X Q := w_cj hf (fun _ => rfl) (by simp only [q_cmp, i32_t ha, i32_t hb]) ht
theorem w_icmpne {a b o : Int} {t : Nat} (hf : q_fetch y pc = some (.if_icmp .ne o, n)) (ht : 0 ≤ (pc : Int) + o ∧ ((pc : Int) + o).toNat = t) (ha : -2147483648 ≤ a ∧ a ≤ 2147483647) (hb : -2147483648 ≤ b ∧ b ≤ 2147483647) : WP d y pc ls (vI b :: vI a :: st) X Q = if a = b then WP d y (pc + 3) ls st X Q else WP d y t ls st X Q := by
  rw [w_cj (P := ¬ a = b) hf (fun _ => rfl) (by simp only [q_cmp, i32_t ha, i32_t hb, decide_not]) ht, ite_not]
theorem w_icmplt {a b o : Int} {t : Nat} (hf : q_fetch y pc = some (.if_icmp .lt o, n)) (ht : 0 ≤ (pc : Int) + o ∧ ((pc : Int) + o).toNat = t) (ha : -2147483648 ≤ a ∧ a ≤ 2147483647) (hb : -2147483648 ≤ b ∧ b ≤ 2147483647) : WP d y pc ls (vI b :: vI a :: st) X Q = if a < b then WP d y t ls st X Q else WP d y (pc + 3) ls st X Q := w_cj hf (fun _ => rfl) (by simp only [q_cmp, i32_t ha, i32_t hb]) ht
theorem w_icmpge {a b o : Int} {t : Nat} (hf : q_fetch y pc = some (.if_icmp .ge o, n)) (ht : 0 ≤ (pc : Int) + o ∧ ((pc : Int) + o).toNat = t) (ha : -2147483648 ≤ a ∧ a ≤ 2147483647) (hb : -2147483648 ≤ b ∧ b ≤ 2147483647) : WP d y pc ls (vI b :: vI a :: st) X Q = if a < b then WP d y (pc + 3) ls st X Q else WP d y t ls st X Q := by
  rw [w_cj (P := ¬ a < b) hf (fun _ => rfl) (by simp only [q_cmp, i32_t ha, i32_t hb, decide_not]) ht, ite_not]
theorem w_icmpgt {a b o : Int} {t : Nat} (hf : q_fetch y pc = some (.if_icmp .gt o, n)) (ht : 0 ≤ (pc : Int) + o ∧ ((pc : Int) + o).toNat = t) (ha : -2147483648 ≤ a ∧ a ≤ 2147483647) (hb : -2147483648 ≤ b ∧ b ≤ 2147483647) : WP d y pc ls (vI b :: vI a :: st) X Q = if b < a then WP d y t ls st X Q else WP d y (pc + 3) ls st X Q := w_cj hf (fun _ => rfl) (by simp only [q_cmp, i32_t ha, i32_t hb]) ht
theorem w_icmple {a b o : Int} {t : Nat} (hf : q_fetch y pc = some (.if_icmp .le o, n)) (ht : 0 ≤ (pc : Int) + o ∧ ((pc : Int) + o).toNat = t) (ha : -2147483648 ≤ a ∧ a ≤ 2147483647) (hb : -2147483648 ≤ b ∧ b ≤ 2147483647) : WP d y pc ls (vI b :: vI a :: st) X Q = if b < a then WP d y (pc + 3) ls st X Q else WP d y t ls st X Q := by
  rw [w_cj (P := ¬ b < a) hf (fun _ => rfl) (by simp only [q_cmp, i32_t ha, i32_t hb, decide_not]) ht, ite_not]
theorem w_ireti {v : Int} (hf : q_fetch y pc = some (.ireturn, n)) (hr : q_mr y = some .int) : WP d y pc ls [vI v] X Q = Q (some (vI v)) X := w_ret hf fun _ => by simp [q_step, q_iret, hr, vI, narrow]
theorem w_iretz {v : Int} {t : FieldType} (hf : q_fetch y pc = some (.ireturn, n)) (hr : q_mr y = some t) (hv : narrow t (.int (Int32.ofInt v)) = .int (Int32.ofInt v)) : WP d y pc ls [vI v] X Q = Q (some (vI v)) X := w_ret hf fun _ => by simp only [q_step, q_iret, hr, vI, hv, if_true]
theorem w_lret {v : Int} (hf : q_fetch y pc = some (.lreturn, n)) (hr : q_mr y = some .long) : WP d y pc ls [vL v] X Q = Q (some (vL v)) X := w_ret hf fun _ => by simp only [q_step, q_lret, hr, vL]
theorem w_vret (hf : q_fetch y pc = some (.return_, n)) (hr : q_mr y = none) : WP d y pc ls [] X Q = Q none X := w_ret hf fun _ => by simp only [q_step, q_vret, hr]
theorem w_getf {i ci k a : Nat} {v : Value} (hf : q_fetch y pc = some (.getfield i, n)) (hp : q_pool (q_mo y) i = some (0, ci, k, v)) (ha : a < N) (ha2 : a ≤ 1000) (hk : isk a ci k = true) : WP d y pc ls (.ref a :: st) (N, L, M) Q = WP d y (pc + 3) ls (M a k :: st) (N, L, M) Q := w_step hf fun _ => by
  obtain ⟨h1, h2⟩ := isk_of hk
  simp only [q_step, q_getf, hp, h1, h2, ha, true_or, and_self, if_true, q_rd, ha2]
/-- a read-only cell's field -/
theorem w_getfR {i ci k a : Nat} {v : Value} (hf : q_fetch y pc = some (.getfield i, n)) (hp : q_pool (q_mo y) i = some (0, ci, k, v)) (ha : 1000 < a) (hk : isk a ci k = true) : WP d y pc ls (.ref a :: st) X Q = WP d y (pc + 3) ls (q_ro a k :: st) X Q := w_step hf fun _ => by
  obtain ⟨h1, h2⟩ := isk_of hk
  have h3 : 1000 ≤ a := by omega
  have h4 : ¬ a ≤ 1000 := by omega
  simp only [q_step, q_getf, hp, h1, h2, h3, or_true, and_self, if_true, q_rd, h4, if_false]
theorem w_putf {i ci k a : Nat} {v v0 : Value} (hf : q_fetch y pc = some (.putfield i, n)) (hp : q_pool (q_mo y) i = some (0, ci, k, v0)) (hci : decide (ci < 10) && (decide (((q_cl.getD ci (q_R0, q_T0, 0)).2.1 k).2.2.2 = false) || q_ownf y ci) = true) (ha : a < N) (hk : isk a ci k = true) (hv : q_fit (q_ty ci k) v = true) : WP d y pc ls (v :: .ref a :: st) (N, L, M) Q = WP d y (pc + 3) ls st (N, L, up M a k v) Q := w_step hf fun _ => by
  obtain ⟨h1, h2⟩ := isk_of hk
  simp only [Bool.and_eq_true, Bool.or_eq_true, decide_eq_true_eq] at hci
  have h3 : a < N ∧ ci < 10 ∧ (q_sh a).1 = ci ∧ k < (q_sh a).2 ∧ q_fit (q_ty ci k) v = true ∧ (((q_cl.getD ci (q_R0, q_T0, 0)).2.1 k).2.2.2 = false ∨ q_ownf y ci = true) := ⟨ha, hci.1, h1, h2, hv, hci.2⟩
  simp only [q_step, q_putf, hp, if_pos h3, q_wr]; rfl
theorem q_fit_int {ty : FieldType} (h : ty = .int) (z : Int) : q_fit ty (vI z) = true := by subst h; simp [q_fit, vI, narrow, fits]
theorem q_fit_ref {ty : FieldType} {a : Nat} (h : fits ty (.ref 0) = true) (ha : a ≠ 1004) : q_fit ty (.ref a) = true := by
  cases ty <;> simp_all [q_fit, fits]
/-- an array of kind k with m places -/
theorem w_iald {a m : Nat} {j : Int} (hf : q_fetch y pc = some (.iaload, n)) (hs : q_sh a = (16, m)) (ha : a < N) (ha2 : a < 1000) (hj : 0 ≤ j ∧ j < (m : Int)) (hm : m ≤ 2147483647) : WP d y pc ls (vI j :: .ref a :: st) (N, L, M) Q = WP d y (pc + 1) ls (M a j.toNat :: st) (N, L, M) Q := w_step hf fun _ => by
  have h1 : q_len (N, L, M) a = m := by unfold q_len; rw [if_neg (by omega), hs]
  have h2 : a ≤ 1000 := by omega
  simp only [q_step, q_ald, vI, i32_t (show -2147483648 ≤ j ∧ j ≤ 2147483647 by omega), h1, hs, ha, true_or, hj.1, hj.2, and_self, beq_self_eq_true, if_true, q_rd, h2]
theorem w_ialdS {j : Int} (hf : q_fetch y pc = some (.iaload, n)) (hj : 0 ≤ j ∧ j < (L : Int)) (hm : L ≤ 2147483647) : WP d y pc ls (vI j :: .ref 1000 :: st) (N, L, M) Q = WP d y (pc + 1) ls (M 1000 j.toNat :: st) (N, L, M) Q := w_step hf fun _ => by
  have h1 : q_len (N, L, M) 1000 = L := rfl
  have h2 : (q_sh 1000).1 = 16 := rfl
  simp only [q_step, q_ald, vI, i32_t (show -2147483648 ≤ j ∧ j ≤ 2147483647 by omega), h1, h2, hj.1, hj.2, and_self, beq_self_eq_true, if_true, q_rd, Nat.le_refl, or_true]
theorem w_ialdR {a m : Nat} {j : Int} (hf : q_fetch y pc = some (.iaload, n)) (hs : q_sh a = (16, m)) (ha2 : 1000 < a) (hj : 0 ≤ j ∧ j < (m : Int)) (hm : m ≤ 2147483647) : WP d y pc ls (vI j :: .ref a :: st) X Q = WP d y (pc + 1) ls (q_ro a j.toNat :: st) X Q := w_step hf fun _ => by
  have h1 : q_len X a = m := by unfold q_len; rw [if_neg (by omega), hs]
  have h2 : ¬ a ≤ 1000 := by omega
  have h3 : 1000 ≤ a := by omega
  simp only [q_step, q_ald, vI, i32_t (show -2147483648 ≤ j ∧ j ≤ 2147483647 by omega), h1, hs, h3, or_true, hj.1, hj.2, and_self, beq_self_eq_true, if_true, q_rd, h2, if_false]
theorem w_lald {a m : Nat} {j : Int} (hf : q_fetch y pc = some (.laload, n)) (hs : q_sh a = (17, m)) (ha : a < N) (ha2 : a < 1000) (hj : 0 ≤ j ∧ j < (m : Int)) (hm : m ≤ 2147483647) : WP d y pc ls (vI j :: .ref a :: st) (N, L, M) Q = WP d y (pc + 1) ls (M a j.toNat :: st) (N, L, M) Q := w_step hf fun _ => by
  have h1 : q_len (N, L, M) a = m := by unfold q_len; rw [if_neg (by omega), hs]
  have h2 : a ≤ 1000 := by omega
  simp only [q_step, q_ald, vI, i32_t (show -2147483648 ≤ j ∧ j ≤ 2147483647 by omega), h1, hs, ha, true_or, hj.1, hj.2, and_self, beq_self_eq_true, if_true, q_rd, h2]
theorem w_bald {a m k : Nat} {j : Int} (hf : q_fetch y pc = some (.baload, n)) (hs : q_sh a = (k, m)) (hk : (k == 18 || k == 19) = true) (ha : a < N) (ha2 : a < 1000) (hj : 0 ≤ j ∧ j < (m : Int)) (hm : m ≤ 2147483647) : WP d y pc ls (vI j :: .ref a :: st) (N, L, M) Q = WP d y (pc + 1) ls (M a j.toNat :: st) (N, L, M) Q := w_step hf fun _ => by
  have h1 : q_len (N, L, M) a = m := by unfold q_len; rw [if_neg (by omega), hs]
  have h2 : a ≤ 1000 := by omega
  simp only [q_step, q_ald, vI, i32_t (show -2147483648 ≤ j ∧ j ≤ 2147483647 by omega), h1, hs, ha, true_or, hj.1, hj.2, and_self, hk, if_true, q_rd, h2]
theorem w_baldR {a m : Nat} {j : Int} (hf : q_fetch y pc = some (.baload, n)) (hs : q_sh a = (18, m)) (ha2 : 1000 < a) (hj : 0 ≤ j ∧ j < (m : Int)) (hm : m ≤ 2147483647) : WP d y pc ls (vI j :: .ref a :: st) X Q = WP d y (pc + 1) ls (q_ro a j.toNat :: st) X Q := w_step hf fun _ => by
  have h1 : q_len X a = m := by unfold q_len; rw [if_neg (by omega), hs]
  have h2 : ¬ a ≤ 1000 := by omega
  have h3 : 1000 ≤ a := by omega
  have h4 : ((18 : Nat) == 18 || (18 : Nat) == 19) = true := rfl
  simp only [q_step, q_ald, vI, i32_t (show -2147483648 ≤ j ∧ j ≤ 2147483647 by omega), h1, hs, h3, or_true, hj.1, hj.2, and_self, h4, if_true, q_rd, h2, if_false]
theorem w_aald {a m k : Nat} {j : Int} (hf : q_fetch y pc = some (.aaload, n)) (hs : q_sh a = (k, m)) (hk : (k == 20 || k == 21) = true) (ha : a < N) (ha2 : a < 1000) (hj : 0 ≤ j ∧ j < (m : Int)) (hm : m ≤ 2147483647) : WP d y pc ls (vI j :: .ref a :: st) (N, L, M) Q = WP d y (pc + 1) ls (M a j.toNat :: st) (N, L, M) Q := w_step hf fun _ => by
  have h1 : q_len (N, L, M) a = m := by unfold q_len; rw [if_neg (by omega), hs]
  have h2 : a ≤ 1000 := by omega
  simp only [q_step, q_ald, vI, i32_t (show -2147483648 ≤ j ∧ j ≤ 2147483647 by omega), h1, hs, ha, true_or, hj.1, hj.2, and_self, hk, if_true, q_rd, h2]
theorem w_iast {a m : Nat} {j z : Int} (hf : q_fetch y pc = some (.iastore, n)) (hs : q_sh a = (16, m)) (ha : a < N) (hj : 0 ≤ j ∧ j < (m : Int)) (hm : m ≤ 2147483647) : WP d y pc ls (vI z :: vI j :: .ref a :: st) (N, L, M) Q = WP d y (pc + 1) ls st (N, L, up M a j.toNat (vI z)) Q := w_step hf fun _ => by
  simp only [q_step, q_sti1, vI, i32_t (show -2147483648 ≤ j ∧ j ≤ 2147483647 by omega), hs, ha, hj.1, hj.2, and_self, if_true, q_wr]; rfl
theorem w_last {a m : Nat} {j z : Int} (hf : q_fetch y pc = some (.lastore, n)) (hs : q_sh a = (17, m)) (ha : a < N) (hj : 0 ≤ j ∧ j < (m : Int)) (hm : m ≤ 2147483647) : WP d y pc ls (vL z :: vI j :: .ref a :: st) (N, L, M) Q = WP d y (pc + 1) ls st (N, L, up M a j.toNat (vL z)) Q := w_step hf fun _ => by
  simp only [q_step, q_stj1, vI, vL, i32_t (show -2147483648 ≤ j ∧ j ≤ 2147483647 by omega), hs, ha, hj.1, hj.2, and_self, if_true, q_wr]; rfl
theorem w_bast {a m k : Nat} {j z : Int} {v : Value} (hf : q_fetch y pc = some (.bastore, n)) (hs : q_sh a = (k, m)) (hk : k = 18 ∨ k = 19) (ha : a < N) (hj : 0 ≤ j ∧ j < (m : Int)) (hm : m ≤ 2147483647) (hv : narrow (q_aty k) (.int (Int32.ofInt z)) = v) : WP d y pc ls (vI z :: vI j :: .ref a :: st) (N, L, M) Q = WP d y (pc + 1) ls st (N, L, up M a j.toNat v) Q := w_step hf fun _ => by
  subst hv
  simp only [q_step, q_stb1, vI, i32_t (show -2147483648 ≤ j ∧ j ≤ 2147483647 by omega), hs, ha, hk, hj.1, hj.2, and_self, if_true, q_wr]; rfl
theorem w_aast {a m k b : Nat} {j : Int} (hf : q_fetch y pc = some (.aastore, n)) (hs : q_sh a = (k, m)) (hb : (k = 20 ∧ (q_sh b).1 = 7) ∨ (k = 21 ∧ (q_sh b).1 = 6)) (ha : a < N) (hbN : b < N) (hj : 0 ≤ j ∧ j < (m : Int)) (hm : m ≤ 2147483647) : WP d y pc ls (.ref b :: vI j :: .ref a :: st) (N, L, M) Q = WP d y (pc + 1) ls st (N, L, up M a j.toNat (.ref b)) Q := w_step hf fun _ => by
  simp only [q_step, q_str1, vI, i32_t (show -2147483648 ≤ j ∧ j ≤ 2147483647 by omega), hs, ha, hbN, hb, hj.1, hj.2, and_self, if_true, q_wr]; rfl
theorem w_alen {a m k : Nat} (hf : q_fetch y pc = some (.arraylength, n)) (hs : q_sh a = (k, m)) (hk : 16 ≤ k ∧ k ≤ 21) (ha : a < N ∨ 1000 < a) (ha2 : a ≠ 1000) : WP d y pc ls (.ref a :: st) (N, L, M) Q = WP d y (pc + 1) ls (vI (m : Int) :: st) (N, L, M) Q := w_step hf fun _ => by
  have h1 : q_len (N, L, M) a = m := by unfold q_len; rw [if_neg ha2, hs]
  have h2 : a < N ∨ 1000 ≤ a := by omega
  have h3 : (q_sh a).1 = k := by rw [hs]
  simp only [q_step, q_alen, h1, h3, h2, hk.1, hk.2, and_self, if_true, vI, Int32.ofInt_eq_ofNat]
theorem w_alenS (hf : q_fetch y pc = some (.arraylength, n)) : WP d y pc ls (.ref 1000 :: st) (N, L, M) Q = WP d y (pc + 1) ls (vI (L : Int) :: st) (N, L, M) Q := w_step hf fun _ => by
  have h1 : q_len (N, L, M) 1000 = L := rfl
  have h3 : (q_sh 1000).1 = 16 := rfl
  have h4 : (16 ≤ 16) ∧ (16 ≤ 21) := by decide
  simp only [q_step, q_alen, h1, h3, Nat.le_refl, or_true, h4.1, h4.2, and_self, if_true, vI, Int32.ofInt_eq_ofNat]
end WPI
