/-! SOUNDNESS of the abstract machine, instruction by instruction, over the kit's judgement W -/
/-- base; addresses of the read-only cells; what the opaque constant is; the classes of the kinds; the slots of the fields -/
abbrev q_G : Type := Nat × (Nat → Nat) × Value × (Nat → ClassId) × (Nat → Nat → Nat)
def q_ad (g : q_G) (a : Nat) : Nat := if a < 1000 then g.1 + a else g.2.1 a
def q_em (g : q_G) (v : Value) : Value := match v with
  | .ref a => if a = 1004 then g.2.2.1 else .ref (q_ad g a)
  | v => v
def q_A (g : q_G) : Nat → Prop := fun q => g.1 ≤ q
def q_at (g : q_G) (k n a : Nat) (f : Nat → Value) (H : Heap) : Prop := if k < 16 then t_OB a (g.2.2.2.1 k) n (g.2.2.2.2 k) H f else H[a]? = some (arrV (g.2.2.2.1 k) n f)
def q_Rep (g : q_G) (L : Nat) (S : Nat → Value) (X : q_H) (H : Heap) : Prop := H.size = g.1 + X.1 ∧ X.1 ≤ 1000 ∧ (X.2.1 = L ∧ X.2.2 1000 = S) ∧ ∀ a, a < X.1 → q_at g (q_sh a).1 (q_sh a).2 (g.1 + a) (fun j => q_em g (X.2.2 a j)) H
def q_tys (g : q_G) : List (ClassId × FieldType) := [(g.2.2.2.1 16, .int), (g.2.2.2.1 17, .long), (g.2.2.2.1 18, .byte), (g.2.2.2.1 19, .boolean), (g.2.2.2.1 20, .object "BellsThatEat$Upland"), (g.2.2.2.1 21, .object "BellsThatEat$Tape")]
def q_K (g : q_G) (U : State) : Prop := va_K (g.2.2.2.1, g.2.2.2.2) q_cl (q_tys g) U
def q_NF (g : q_G) (U : State) : Prop := (∀ w ∈ q_nest, va_Nw w U) ∧ (∀ (j : Nat) (q : String × Nat × String), q_strs[j]? = some q → vk_R q.1 q.2.1 q.2.2 (g.2.1 (1010 + j)) U) ∧ va_AO "BellsThatEat$Upland" U ∧ va_AO "BellsThatEat$Tape" U
def q_RO (g : q_G) (L : Nat) (S : Nat → Value) (U : State) (H : Heap) : Prop :=
  (∀ a, 1000 ≤ a → a ≤ 1003 → va_T .int (g.2.1 a) (q_len (0, L, fun _ => S) a) (fun j => q_em g (q_rd (0, L, fun _ => S) a j)) (q_A g) U H) ∧
  (∀ q ∈ q_stat, va_Z q.1 q.2.1 q.2.2.1 (q_em g q.2.2.2) (q_A g) U H) ∧
  vk_S 6 q_stl q_stb (fun i => g.2.1 (1010 + i)) (fun i => g.2.1 (1020 + i)) (q_A g) U H
def lw_good : List Jvm.Cond := lw_tbl.filter goodWord
theorem lw_goodIn {y : Nat} (h : Jvm.Cond.code (q_my y) (q_mc y) (q_ml y) (q_mr y) ∈ lw_good) : GoodIn lw_good (Jvm.Cond.code (q_my y) (q_mc y) (q_ml y) (q_mr y) :: lw_good) := by
  intro w hw
  have h1 : w ∈ lw_good := (List.mem_cons.mp hw).elim (fun e => e ▸ h) id
  exact ⟨h1, good_of_word (List.mem_filter.mp h1).2⟩
def q_ws (y : Nat) : List Jvm.Cond := Jvm.Cond.code (q_my y) (q_mc y) (q_ml y) (q_mr y) :: lw_good
/-- what is known of a method that is called with n arguments -/
def q_okm (y n : Nat) : Prop := Jvm.Cond.code (q_my y) (q_mc y) (q_ml y) (q_mr y) ∈ lw_good ∧ Jvm.Cond.initialized (q_my y).cls ∈ lw_good ∧ ((q_my y).cls ≠ "java/lang/invoke/MethodHandle" ∧ (q_my y).cls ≠ "java/lang/invoke/VarHandle") ∧ (parseMethodDescriptor (q_my y).desc).map (fun d => d.parameters.length) = some n ∧ q_ml y ≤ 40 ∧ (q_my y).cls = q_own.getD (q_mo y) ""
def q_clk (k : Nat) : vw_C := q_cl.getD k (q_R0, q_T0, 0)
/-- what the tables must say of a pool entry -/
def q_ok (o i : Nat) (e : q_E) : Prop := match e with
  | (0, ci, k, _) => (ci < 10 ∧ k < (q_clk ci).2.2 ∧ Jvm.Cond.fieldLink (q_own.getD o "") i (q_clk ci).1 ((q_clk ci).2.1 k).2.1 ((q_clk ci).2.1 k).2.2.1 ∈ lw_good ∧ (q_clk ci).1 = ((q_clk ci).2.1 k).1) ∨ (ci = 10 ∧ k = 0 ∧ Jvm.Cond.fieldLink (q_own.getD o "") i "java/lang/String" "value" "[B" ∈ lw_good) ∨ (ci = 10 ∧ k = 1 ∧ Jvm.Cond.fieldLink (q_own.getD o "") i "java/lang/String" "coder" "B" ∈ lw_good)
  | (2, y, n, _) => q_okm y n ∧ Jvm.Cond.methodLink (q_own.getD o "") i (q_my y) ∈ lw_good ∧ Jvm.Cond.instanceMethod (q_my y) ∈ lw_good ∧ Jvm.Cond.selects (q_my y).cls (q_my y) (q_my y) ∈ lw_good
  | (3, y, n, _) => q_okm y n ∧ Jvm.Cond.methodLink (q_own.getD o "") i (q_my y) ∈ lw_good ∧ Jvm.Cond.static (q_my y) ∈ lw_good
  | (4, y, n, _) => q_okm y n ∧ Jvm.Cond.methodLink (q_own.getD o "") i (q_my y) ∈ lw_good ∧ Jvm.Cond.instanceMethod (q_my y) ∈ lw_good ∧ (q_my y).name = "<init>" ∧ q_mr y = none
  | (14, y, n, _) => q_okm y n ∧ Jvm.Cond.methodLinkNest (q_own.getD o "") i (q_my y) "BellsThatEat" ∈ q_nest ∧ Jvm.Cond.instanceMethod (q_my y) ∈ lw_good ∧ (q_my y).name = "<init>" ∧ q_mr y = none
  | (5, ci, _, _) => ci < 10 ∧ Jvm.Cond.classLink (q_own.getD o "") i (q_clk ci).1 ∈ lw_good ∧ Jvm.Cond.instantiable (q_clk ci).1 (q_clk ci).2.2 ∈ lw_good ∧ Jvm.Cond.initialized (q_clk ci).1 ∈ lw_good
  | (6, _, _, v) => ∃ q, q ∈ q_stat ∧ q.2.2.2 = v ∧ Jvm.Cond.fieldLink (q_own.getD o "") i q.1 q.2.1 q.2.2.1 ∈ lw_good
  | (16, _, _, v) => ∃ q, q ∈ q_stat ∧ q.2.2.2 = v ∧ Jvm.Cond.fieldLinkNest (q_own.getD o "") i q.1 q.2.1 q.2.2.1 "BellsThatEat" ∈ q_nest
  | (7, _, _, v) => ∃ z, v = .int z ∧ Jvm.Cond.constant (q_own.getD o "") i z ∈ lw_good
  | (8, _, _, v) => ∃ z, v = .long z ∧ Jvm.Cond.constantLong (q_own.getD o "") i z ∈ lw_good
  | (9, a, _, _) => ∃ (j : Nat) (q : String × Nat × String), q_strs[j]? = some q ∧ a = 1010 + j ∧ j < 6 ∧ q.1 = q_own.getD o "" ∧ q.2.1 = i
  | (10, _, _, _) => Jvm.Cond.methodLink (q_own.getD o "") i arraycopyName ∈ lw_good ∧ Jvm.Cond.native arraycopyName ∈ lw_good ∧ Jvm.Cond.static arraycopyName ∈ lw_good ∧ Jvm.Cond.initialized "java/lang/System" ∈ lw_good
  | (20, _, _, _) => Jvm.Cond.methodLink (q_own.getD o "") i Lib.Math.max.name ∈ lw_good ∧ Jvm.Cond.static Lib.Math.max.name ∈ lw_good ∧ Jvm.Cond.initialized "java/lang/Math" ∈ lw_good ∧ Jvm.Cond.code Lib.Math.max.name Lib.Math.max.code 2 (some .int) ∈ lw_good
  | (21, _, _, _) => Jvm.Cond.methodLink (q_own.getD o "") i Lib.Math.min.name ∈ lw_good ∧ Jvm.Cond.static Lib.Math.min.name ∈ lw_good ∧ Jvm.Cond.initialized "java/lang/Math" ∈ lw_good ∧ Jvm.Cond.code Lib.Math.min.name Lib.Math.min.code 2 (some .int) ∈ lw_good
  | (22, _, _, _) => Jvm.Cond.methodLink (q_own.getD o "") i Lib.Math.abs.name ∈ lw_good ∧ Jvm.Cond.static Lib.Math.abs.name ∈ lw_good ∧ Jvm.Cond.initialized "java/lang/Math" ∈ lw_good ∧ Jvm.Cond.code Lib.Math.abs.name Lib.Math.abs.code 1 (some .int) ∈ lw_good
  | (11, _, _, _) => Jvm.Cond.methodLink (q_own.getD o "") i Lib.objectInit ∈ lw_good ∧ Jvm.Cond.instanceMethod Lib.objectInit ∈ lw_good ∧ Jvm.Cond.code Lib.objectInit ⟨#[0xb1]⟩ 1 none ∈ lw_good
  | _ => True
/-! shapes -/
theorem q_sh_lt : ∀ a, a < 129 → (q_sh a).1 ≠ 10 ∧ (q_sh a).1 ≤ 21 ∧ ((q_sh a).1 < 10 → (q_sh a).2 = (q_clk (q_sh a).1).2.2) ∧ ((q_sh a).1 < 10 ∨ 16 ≤ (q_sh a).1) := by decide +kernel
theorem q_sh_mid {a : Nat} (h1 : 129 ≤ a) (h2 : a < 1000) : q_sh a = (7, 7) ∨ q_sh a = (16, 100) ∨ q_sh a = (16, 10) := by
  unfold q_sh
  rw [if_neg (by omega), if_pos h2]
  split
  · exact Or.inl rfl
  · split
    · exact Or.inr (Or.inl rfl)
    · exact Or.inr (Or.inr rfl)
theorem q_sh_lo {a : Nat} (h : a < 1000) : (q_sh a).1 ≠ 10 ∧ (q_sh a).1 ≤ 21 ∧ ((q_sh a).1 < 10 → (q_sh a).2 = (q_clk (q_sh a).1).2.2) ∧ ((q_sh a).1 < 10 ∨ 16 ≤ (q_sh a).1) := by
  by_cases h1 : a < 129
  · exact q_sh_lt a h1
  · rcases q_sh_mid (by omega) h with e | e | e <;> rw [e] <;> decide +kernel
theorem q_sh_hi {a : Nat} (h : 1000 ≤ a) : ((q_sh a).1 = 16 ∧ a ≤ 1003) ∨ ((q_sh a).1 = 10 ∧ ∃ j, j < 6 ∧ a = 1010 + j) ∨ ((q_sh a).1 = 18 ∧ ∃ j, j < 6 ∧ a = 1020 + j ∧ (q_sh a).2 = q_stl.getD j 0) ∨ (q_sh a).1 = 99 := by
  by_cases h2 : a < 1100
  · have h3 : ∀ b, b < 100 → ((q_sh (1000 + b)).1 = 16 ∧ 1000 + b ≤ 1003) ∨ ((q_sh (1000 + b)).1 = 10 ∧ ∃ j, j < 6 ∧ 1000 + b = 1010 + j) ∨ ((q_sh (1000 + b)).1 = 18 ∧ ∃ j, j < 6 ∧ 1000 + b = 1020 + j ∧ (q_sh (1000 + b)).2 = q_stl.getD j 0) ∨ (q_sh (1000 + b)).1 = 99 := by decide +kernel
    have := h3 (a - 1000) (by omega)
    rwa [show 1000 + (a - 1000) = a by omega] at this
  · right; right; right
    unfold q_sh
    rw [if_neg (by omega), if_neg (by omega)]
    split <;> first | omega | rfl
theorem q_kd_own : ∀ o, o < 20 → q_kd o < 10 → (q_clk (q_kd o)).1 = q_own.getD o "" := by decide +kernel
theorem q_kd_str : ∀ o, o < 20 → q_kd o = 10 → q_own.getD o "" = "java/lang/String" := by decide +kernel
theorem q_kd_out {o : Nat} (h : 20 ≤ o) : q_kd o = 98 := by
  unfold q_kd
  rw [List.getD_eq_getElem?_getD, List.getElem?_eq_none (by simp; omega)]
  rfl
/-! the embedding -/
theorem q_em_int (g : q_G) (x : Int32) : q_em g (.int x) = .int x := rfl
theorem q_em_long (g : q_G) (x : Int64) : q_em g (.long x) = .long x := rfl
theorem q_em_null (g : q_G) : q_em g .null = .null := rfl
theorem q_em_ref {g : q_G} {a : Nat} (h : a ≠ 1004) : q_em g (.ref a) = .ref (q_ad g a) := by simp [q_em, h]
/-- the opaque constant is null or a reference -/
def q_op (g : q_G) : Prop := g.2.2.1 = .null ∨ ∃ t, g.2.2.1 = .ref t
theorem q_em_cat {g : q_G} (ho : q_op g) (v : Value) : (q_em g v).category = v.category := by
  cases v with
  | ref a =>
    simp only [q_em]
    split
    · rcases ho with h | ⟨t, h⟩ <;> rw [h] <;> rfl
    · rfl
  | _ => rfl
theorem q_em_wt {g : q_G} (ho : q_op g) (st : List Value) : ((st.map (q_em g)).map fun v => v.category).sum = q_wt st := by
  unfold q_wt
  rw [List.map_map]
  congr 1
  exact List.map_congr_left fun v _ => q_em_cat ho v
/-! the locals -/
def q_has (g : q_G) (ls : Array Slot) (nL : Nat) (vl : List Value) : Prop := ls.size = nL ∧ lv_wf ls ∧ vl.length = nL ∧ ∀ (i : Nat) (v : Value), vl[i]? = some v → v ≠ .null → ls[i]? = some (.val (q_em g v))
theorem q_has_at {g : q_G} {ls : Array Slot} {nL : Nat} {vl : List Value} (h : q_has g ls nL vl) {i : Nat} {v : Value} (hv : vl[i]? = some v) (hn : v ≠ .null) : ls[i]? = some (.val (q_em g v)) := h.2.2.2 i v hv hn
theorem q_store1 {g : q_G} {ls : Array Slot} {nL k : Nat} {vl vl' : List Value} {v : Value} (ho : q_op g) (h : q_has g ls nL vl) (hc : v.category = 1) (hs : q_set1 vl k v = some vl') : ∃ ls', storeLocals ls k (q_em g v) = some ls' ∧ q_has g ls' nL vl' := by
  unfold q_set1 at hs
  split at hs
  · rename_i hk
    cases hs
    obtain ⟨h1, h2, h3, h4⟩ := h
    obtain ⟨ls', e1, e2⟩ := lv_store1 (l := []) (i := k) (v := q_em g v) ⟨h1, h2, fun _ hq => by cases hq⟩ (by omega) (by rw [q_em_cat ho]; exact hc)
    refine ⟨ls', e1, e2.1, e2.2.1, by rw [List.length_set]; exact h3, fun i w hw hn => ?_⟩
    by_cases hik : i = k
    · subst hik
      rw [List.getElem?_set_self hk.1] at hw
      cases hw
      exact e2.2.2 (i, q_em g v) List.mem_cons_self
    · rw [List.getElem?_set_ne (Ne.symm hik)] at hw
      obtain ⟨ls2, f1, f2⟩ := lv_store1 (l := [(i, q_em g w)]) (i := k) (v := q_em g v) ⟨h1, h2, fun q hq => by rw [List.mem_singleton.mp hq]; exact h4 i w hw hn⟩ (by omega) (by rw [q_em_cat ho]; exact hc)
      cases e1.symm.trans f1
      refine f2.2.2 (i, q_em g w) (List.mem_cons_of_mem _ (List.mem_filter.mpr ⟨List.mem_singleton.mpr rfl, ?_⟩))
      simp only [Bool.and_eq_true, Bool.not_eq_true', beq_eq_false_iff_ne, ne_eq, Bool.and_eq_false_iff]
      refine ⟨hik, ?_⟩
      by_cases h5 : i + 1 = k
      · right
        rw [q_em_cat ho]
        have h6 := hk.2
        rw [← h5] at h6
        unfold q_okb at h6
        simp only [hw] at h6
        cases w <;> simp_all [Value.category]
      · left
        exact h5
  · cases hs
theorem q_store2 {g : q_G} {ls : Array Slot} {nL k : Nat} {vl vl' : List Value} {x : Int64} (ho : q_op g) (h : q_has g ls nL vl) (hs : q_set2 vl k (.long x) = some vl') : ∃ ls', storeLocals ls k (.long x) = some ls' ∧ q_has g ls' nL vl' := by
  unfold q_set2 at hs
  split at hs
  · rename_i hk
    cases hs
    obtain ⟨h1, h2, h3, h4⟩ := h
    obtain ⟨ls', e1, e2⟩ := lv_store2 (l := []) (i := k) (v := .long x) ⟨h1, h2, fun _ hq => by cases hq⟩ (by omega) rfl
    refine ⟨ls', e1, e2.1, e2.2.1, by rw [List.length_set, List.length_set]; exact h3, fun i w hw hn => ?_⟩
    by_cases hik1 : i = k + 1
    · subst hik1
      rw [List.getElem?_set_self (by rw [List.length_set]; exact hk.1)] at hw
      cases hw
      exact absurd rfl hn
    · rw [List.getElem?_set_ne (Ne.symm hik1)] at hw
      by_cases hik : i = k
      · subst hik
        rw [List.getElem?_set_self (by omega)] at hw
        cases hw
        exact e2.2.2 (i, .long x) List.mem_cons_self
      · rw [List.getElem?_set_ne (Ne.symm hik)] at hw
        obtain ⟨ls2, f1, f2⟩ := lv_store2 (l := [(i, q_em g w)]) (i := k) (v := .long x) ⟨h1, h2, fun q hq => by rw [List.mem_singleton.mp hq]; exact h4 i w hw hn⟩ (by omega) rfl
        cases e1.symm.trans f1
        refine f2.2.2 (i, q_em g w) (List.mem_cons_of_mem _ (List.mem_filter.mpr ⟨List.mem_singleton.mpr rfl, ?_⟩))
        simp only [Bool.and_eq_true, Bool.not_eq_true', beq_eq_false_iff_ne, ne_eq, Bool.and_eq_false_iff]
        refine ⟨hik, hik1, ?_⟩
        by_cases h5 : i + 1 = k
        · right
          rw [q_em_cat ho]
          have h6 := hk.2
          rw [← h5] at h6
          unfold q_okb at h6
          simp only [hw] at h6
          cases w <;> simp_all [Value.category]
        · left
          exact h5
  · cases hs
