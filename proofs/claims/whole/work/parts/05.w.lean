/-! the judgement at a point of the abstract machine, and a row an instruction -/
def q_Cx (p : Program) (s : State) (m : MethodId) (args : Array Value) (meth : Method) (c : Code) (g : q_G) (L : Nat) (S : Nat → Value) (n0 y : Nat) : Prop :=
  p.tables.exec = Jvm.exec ∧ c.code = q_mc y ∧ s.vm.findClass (q_own.getD (q_mo y) "") = some m.cls ∧ (∀ w ∈ lw_good, w.before args s = true) ∧ q_K g s ∧ q_NF g s ∧ q_RO g L S s s.heap ∧ q_op g ∧ s.heap.size = g.1 + n0 ∧ ((q_my y).name = "<init>" → meth.name = "<init>") ∧ c.maxLocals = q_ml y
def q_WA (p : Program) (l : Launch) (e : Env) (R : Room) (s : State) (m : MethodId) (args : Array Value) (below : List Frame) (meth : Method) (c : Code) (Q : State → Prop) (g : q_G) (L : Nat) (S : Nat → Value) (n0 : Nat) (cfg : q_C) : Prop :=
  ∀ (H : Heap) (locs : List Loc) (ls : Array Slot), q_Rep g L S cfg.2.2.2 H → va_S (q_A g) s.heap H locs → q_has g ls c.maxLocals cfg.2.1 → W p l e R s m args below meth c H locs (cfg.2.2.2.1 - n0) (q_us cfg.2.2.2.1 - q_us n0) Q (F0 m cfg.1 ls (cfg.2.2.1.map (q_em g)))
theorem q_us_mono {a b : Nat} (h : a ≤ b) : q_us a ≤ q_us b := by
  induction b with
  | zero => rw [Nat.le_zero.mp h]; exact Nat.le_refl _
  | succ b ih =>
    by_cases h1 : a ≤ b
    · exact Nat.le_trans (ih h1) (Nat.le_add_right _ _)
    · rw [show a = b + 1 by omega]; exact Nat.le_refl _
theorem q_at_kept {g : q_G} {k n a : Nat} {f : Nat → Value} {H H' : Heap} (h : q_at g k n a f H) (hq : H'[a]? = H[a]?) : q_at g k n a f H' := by
  unfold q_at at h ⊢
  split
  · rename_i hk; rw [if_pos hk] at h; exact h.kept hq
  · rename_i hk; rw [if_neg hk] at h; rw [hq]; exact h
theorem q_Rep_put {g : q_G} {L : Nat} {S : Nat → Value} {X X' : q_H} {H H' : Heap} {a : Nat} (h : q_Rep g L S X H) (ha : a < X.1) (h1 : X'.1 = X.1) (h2 : X'.2.1 = X.2.1) (h3 : ∀ b, b ≠ a → X'.2.2 b = X.2.2 b) (hz : H'.size = H.size) (ho : ∀ q, q ≠ g.1 + a → H'[q]? = H[q]?) (hn : q_at g (q_sh a).1 (q_sh a).2 (g.1 + a) (fun j => q_em g (X'.2.2 a j)) H') : q_Rep g L S X' H' := by
  obtain ⟨r1, r2, ⟨r3, r4⟩, r5⟩ := h
  refine ⟨by rw [hz, h1]; exact r1, by rw [h1]; exact r2, ⟨by rw [h2]; exact r3, by rw [h3 1000 (by omega)]; exact r4⟩, fun b hb => ?_⟩
  by_cases hba : b = a
  · subst hba; exact hn
  · rw [h3 b hba]
    exact q_at_kept (r5 b (by omega)) (ho _ (by omega))
theorem q_Rep_new {g : q_G} {L : Nat} {S : Nat → Value} {X : q_H} {H H' : Heap} {f : Nat → Value} (h : q_Rep g L S X H) (hx : X.1 < 1000) (hz : H'.size = H.size + 1) (ho : ∀ q, q < H.size → H'[q]? = H[q]?) (hn : q_at g (q_sh X.1).1 (q_sh X.1).2 H.size (fun j => q_em g (f j)) H') : q_Rep g L S (q_mk X f) H' := by
  obtain ⟨r1, r2, ⟨r3, r4⟩, r5⟩ := h
  refine ⟨by rw [hz, r1]; rfl, hx, ⟨r3, ?_⟩, fun b hb => ?_⟩
  · funext j
    show (if 1000 = X.1 then f j else X.2.2 1000 j) = S j
    rw [if_neg (by omega), r4]
  · have hb' : b < X.1 + 1 := hb
    by_cases hbx : b = X.1
    · subst hbx
      have e : (fun j => q_em g ((q_mk X f).2.2 X.1 j)) = fun j => q_em g (f j) := by
        funext j
        show q_em g (if X.1 = X.1 then f j else X.2.2 X.1 j) = _
        rw [if_pos rfl]
      rw [e, ← r1]
      exact hn
    · have e : (fun j => q_em g ((q_mk X f).2.2 b j)) = fun j => q_em g (X.2.2 b j) := by
        funext j
        show q_em g (if b = X.1 then f j else X.2.2 b j) = _
        rw [if_neg hbx]
      rw [e]
      exact q_at_kept (r5 b (by omega)) (ho _ (by omega))
theorem q_S_put {g : q_G} {H0 H H' : Heap} {locs : List Loc} {a k : Nat} (h : va_S (q_A g) H0 H locs) (hz : H'.size = H.size) (ho : ∀ q, q ≠ g.1 + a → H'[q]? = H[q]?) : va_S (q_A g) H0 H' (locs ++ [⟨g.1 + a, k⟩]) := h.put hz ho (Nat.le_add_right _ _)
theorem q_S_new {g : q_G} {H0 H H' : Heap} {locs : List Loc} (h : va_S (q_A g) H0 H locs) (hz : H'.size = H.size + 1) (ho : ∀ q, q < H.size → H'[q]? = H[q]?) : va_S (q_A g) H0 H' locs := ⟨Nat.le_trans h.1 (by omega), fun q h1 h2 => (ho q (Nat.lt_of_lt_of_le h1 h.1)).trans (h.2.1 q h1 h2), h.2.2⟩
section QW
variable {p : Program} {l : Launch} {e : Env} {R : Room} {s : State} {m : MethodId} {args : Array Value} {below : List Frame} {meth : Method} {c : Code} {Q : State → Prop} {g : q_G} {L n0 y : Nat} {S : Nat → Value}
theorem q_w_push {cfg cfg' : q_C} {v : Value} {n : Nat} (hs : q_push v n cfg = some (.inl cfg')) (row : ∀ {H : Heap} {locs : List Loc} {cells slots : Nat} {ls : Array Slot} {rest : List Value}, W p l e R s m args below meth c H locs cells slots Q (F0 m (cfg.1 + n) ls (q_em g v :: rest)) → W p l e R s m args below meth c H locs cells slots Q (F0 m cfg.1 ls rest)) (k : q_WA p l e R s m args below meth c Q g L S n0 cfg') : q_WA p l e R s m args below meth c Q g L S n0 cfg := by
  cases hs
  intro H locs ls h1 h2 h3
  exact row (k H locs ls h1 h2 h3)
theorem q_w_ldi {cfg cfg' : q_C} {i n : Nat} (hs : q_ldi i n cfg = some (.inl cfg')) (row : ∀ {H : Heap} {locs : List Loc} {cells slots : Nat} {ls : Array Slot} {rest : List Value} {x : Int32}, ls[i]? = some (.val (.int x)) → W p l e R s m args below meth c H locs cells slots Q (F0 m (cfg.1 + n) ls (.int x :: rest)) → W p l e R s m args below meth c H locs cells slots Q (F0 m cfg.1 ls rest)) (k : q_WA p l e R s m args below meth c Q g L S n0 cfg') : q_WA p l e R s m args below meth c Q g L S n0 cfg := by
  unfold q_ldi at hs
  split at hs
  · rename_i x hx
    cases hs
    intro H locs ls h1 h2 h3
    exact row (q_has_at h3 hx (by intro q; cases q)) (k H locs ls h1 h2 h3)
  · cases hs
theorem q_w_ldl {cfg cfg' : q_C} {i n : Nat} (hs : q_ldl i n cfg = some (.inl cfg')) (row : ∀ {H : Heap} {locs : List Loc} {cells slots : Nat} {ls : Array Slot} {rest : List Value} {x : Int64}, ls[i]? = some (.val (.long x)) → W p l e R s m args below meth c H locs cells slots Q (F0 m (cfg.1 + n) ls (.long x :: rest)) → W p l e R s m args below meth c H locs cells slots Q (F0 m cfg.1 ls rest)) (k : q_WA p l e R s m args below meth c Q g L S n0 cfg') : q_WA p l e R s m args below meth c Q g L S n0 cfg := by
  unfold q_ldl at hs
  split at hs
  · rename_i x hx
    cases hs
    intro H locs ls h1 h2 h3
    exact row (q_has_at h3 hx (by intro q; cases q)) (k H locs ls h1 h2 h3)
  · cases hs
theorem q_w_lda {cfg cfg' : q_C} {i n : Nat} (hs : q_lda i n cfg = some (.inl cfg')) (row : ∀ {H : Heap} {locs : List Loc} {cells slots : Nat} {ls : Array Slot} {rest : List Value} {x : Nat}, ls[i]? = some (.val (.ref x)) → W p l e R s m args below meth c H locs cells slots Q (F0 m (cfg.1 + n) ls (.ref x :: rest)) → W p l e R s m args below meth c H locs cells slots Q (F0 m cfg.1 ls rest)) (k : q_WA p l e R s m args below meth c Q g L S n0 cfg') : q_WA p l e R s m args below meth c Q g L S n0 cfg := by
  unfold q_lda at hs
  split at hs
  · rename_i x hx
    split at hs
    · cases hs
    · rename_i hne
      cases hs
      intro H locs ls h1 h2 h3
      have h4 := q_has_at h3 hx (by intro q; cases q)
      rw [q_em_ref hne] at h4
      refine row h4 ?_
      have h5 := k H locs ls h1 h2 h3
      simp only [List.map_cons, q_em_ref hne] at h5
      exact h5
  · cases hs
theorem q_w_to1 {pc n i : Nat} {vl : List Value} {v : Value} {st st0 : List Value} {X : q_H} {cfg' : q_C} (ho : q_op g) (hc : v.category = 1) (hs : q_to (q_set1 vl i v) n st (pc, vl, st0, X) = some (.inl cfg')) (row : ∀ {H : Heap} {locs : List Loc} {cells slots : Nat} {ls ls' : Array Slot} {rest : List Value}, storeLocals ls i (q_em g v) = some ls' → W p l e R s m args below meth c H locs cells slots Q (F0 m (pc + n) ls' (st.map (q_em g))) → W p l e R s m args below meth c H locs cells slots Q (F0 m pc ls (st0.map (q_em g)))) (k : q_WA p l e R s m args below meth c Q g L S n0 cfg') : q_WA p l e R s m args below meth c Q g L S n0 (pc, vl, st0, X) := by
  unfold q_to at hs
  split at hs
  · rename_i vl' hx
    cases hs
    intro H locs ls h1 h2 h3
    obtain ⟨ls', e1, e2⟩ := q_store1 ho h3 hc hx
    exact row (rest := []) e1 (k H locs ls' h1 h2 e2)
  · cases hs

variable {H : Heap} {locs : List Loc} {cells slots : Nat} {cc : ByteArray} {pc : Nat} {ls ls' : Array Slot} {rest : List Value}
theorem q_r_istore_n (hexec : p.tables.exec = Jvm.exec) (hb : c.code = cc) {k : Fin 4} {x : Int32} (hdg : decode cc pc = .ok (.istore_n k, 1)) (e' : storeLocals ls k (.int x) = some ls') (kk : W p l e R s m args below meth c H locs cells slots Q (F0 m (pc + 1) ls' rest)) : W p l e R s m args below meth c H locs cells slots Q (F0 m pc ls ((.int x) :: rest)) := by
  intro T hT X
  obtain ⟨t, a, b⟩ := kk T hT X
  refine ⟨t, ?_, b⟩
  jvm_step X.here [X.here.top, ↓top_set X.here.top, hexec, hb, hdg, e']
  exact a
theorem q_r_istore (hexec : p.tables.exec = Jvm.exec) (hb : c.code = cc) {k : Nat} {x : Int32} (hdg : decode cc pc = .ok (.istore k, 2)) (e' : storeLocals ls k (.int x) = some ls') (kk : W p l e R s m args below meth c H locs cells slots Q (F0 m (pc + 2) ls' rest)) : W p l e R s m args below meth c H locs cells slots Q (F0 m pc ls ((.int x) :: rest)) := by
  intro T hT X
  obtain ⟨t, a, b⟩ := kk T hT X
  refine ⟨t, ?_, b⟩
  jvm_step X.here [X.here.top, ↓top_set X.here.top, hexec, hb, hdg, e']
  exact a
theorem q_r_lstore_n (hexec : p.tables.exec = Jvm.exec) (hb : c.code = cc) {k : Fin 4} {x : Int64} (hdg : decode cc pc = .ok (.lstore_n k, 1)) (e' : storeLocals ls k (.long x) = some ls') (kk : W p l e R s m args below meth c H locs cells slots Q (F0 m (pc + 1) ls' rest)) : W p l e R s m args below meth c H locs cells slots Q (F0 m pc ls ((.long x) :: rest)) := by
  intro T hT X
  obtain ⟨t, a, b⟩ := kk T hT X
  refine ⟨t, ?_, b⟩
  jvm_step X.here [X.here.top, ↓top_set X.here.top, hexec, hb, hdg, e']
  exact a
theorem q_r_lstore (hexec : p.tables.exec = Jvm.exec) (hb : c.code = cc) {k : Nat} {x : Int64} (hdg : decode cc pc = .ok (.lstore k, 2)) (e' : storeLocals ls k (.long x) = some ls') (kk : W p l e R s m args below meth c H locs cells slots Q (F0 m (pc + 2) ls' rest)) : W p l e R s m args below meth c H locs cells slots Q (F0 m pc ls ((.long x) :: rest)) := by
  intro T hT X
  obtain ⟨t, a, b⟩ := kk T hT X
  refine ⟨t, ?_, b⟩
  jvm_step X.here [X.here.top, ↓top_set X.here.top, hexec, hb, hdg, e']
  exact a
theorem q_r_astore_n (hexec : p.tables.exec = Jvm.exec) (hb : c.code = cc) {k : Fin 4} {x : Nat} (hdg : decode cc pc = .ok (.astore_n k, 1)) (e' : storeLocals ls k (.ref x) = some ls') (kk : W p l e R s m args below meth c H locs cells slots Q (F0 m (pc + 1) ls' rest)) : W p l e R s m args below meth c H locs cells slots Q (F0 m pc ls ((.ref x) :: rest)) := by
  intro T hT X
  obtain ⟨t, a, b⟩ := kk T hT X
  refine ⟨t, ?_, b⟩
  jvm_step X.here [X.here.top, ↓top_set X.here.top, hexec, hb, hdg, e']
  exact ⟨rfl, a⟩
theorem q_r_astore (hexec : p.tables.exec = Jvm.exec) (hb : c.code = cc) {k : Nat} {x : Nat} (hdg : decode cc pc = .ok (.astore k, 2)) (e' : storeLocals ls k (.ref x) = some ls') (kk : W p l e R s m args below meth c H locs cells slots Q (F0 m (pc + 2) ls' rest)) : W p l e R s m args below meth c H locs cells slots Q (F0 m pc ls ((.ref x) :: rest)) := by
  intro T hT X
  obtain ⟨t, a, b⟩ := kk T hT X
  refine ⟨t, ?_, b⟩
  jvm_step X.here [X.here.top, ↓top_set X.here.top, hexec, hb, hdg, e']
  exact ⟨rfl, a⟩
theorem q_r_iinc (hexec : p.tables.exec = Jvm.exec) (hb : c.code = cc) {i : Nat} {n : Int} {x : Int32} (hdg : decode cc pc = .ok (.iinc i n, 3)) (hg : ls[i]? = some (.val (.int x))) (e' : storeLocals ls i (.int (x + Int32.ofInt n)) = some ls') (kk : W p l e R s m args below meth c H locs cells slots Q (F0 m (pc + 3) ls' rest)) : W p l e R s m args below meth c H locs cells slots Q (F0 m pc ls rest) := by
  intro T hT X
  obtain ⟨t, a, b⟩ := kk T hT X
  refine ⟨t, ?_, b⟩
  jvm_step X.here [X.here.top, ↓top_set X.here.top, hexec, hb, hdg, hg, e']
  exact a
theorem q_w_sti {cfg cfg' : q_C} {i n : Nat} (ho : q_op g) (hs : q_sti i n cfg = some (.inl cfg')) (row : ∀ {H : Heap} {locs : List Loc} {cells slots : Nat} {ls ls' : Array Slot} {rest : List Value} {x : Int32}, storeLocals ls i (.int x) = some ls' → W p l e R s m args below meth c H locs cells slots Q (F0 m (cfg.1 + n) ls' rest) → W p l e R s m args below meth c H locs cells slots Q (F0 m cfg.1 ls (.int x :: rest))) (k : q_WA p l e R s m args below meth c Q g L S n0 cfg') : q_WA p l e R s m args below meth c Q g L S n0 cfg := by
  obtain ⟨pc, vl, st, X⟩ := cfg
  unfold q_sti at hs
  split at hs
  · rename_i x r hst
    have hst' : st = .int x :: r := hst
    subst hst'
    unfold q_to at hs
    split at hs
    · rename_i vl' hx
      cases hs
      intro H locs ls h1 h2 h3
      obtain ⟨ls', e1, e2⟩ := q_store1 ho h3 rfl hx
      exact row e1 (k H locs ls' h1 h2 e2)
    · cases hs
  · cases hs
theorem q_w_sta {cfg cfg' : q_C} {i n : Nat} (ho : q_op g) (hs : q_sta i n cfg = some (.inl cfg')) (row : ∀ {H : Heap} {locs : List Loc} {cells slots : Nat} {ls ls' : Array Slot} {rest : List Value} {x : Nat}, storeLocals ls i (.ref x) = some ls' → W p l e R s m args below meth c H locs cells slots Q (F0 m (cfg.1 + n) ls' rest) → W p l e R s m args below meth c H locs cells slots Q (F0 m cfg.1 ls (.ref x :: rest))) (k : q_WA p l e R s m args below meth c Q g L S n0 cfg') : q_WA p l e R s m args below meth c Q g L S n0 cfg := by
  obtain ⟨pc, vl, st, X⟩ := cfg
  unfold q_sta at hs
  split at hs
  · rename_i x r hst
    have hst' : st = .ref x :: r := hst
    subst hst'
    split at hs
    · cases hs
    · rename_i hne
      unfold q_to at hs
      split at hs
      · rename_i vl' hx
        cases hs
        intro H locs ls h1 h2 h3
        obtain ⟨ls', e1, e2⟩ := q_store1 ho h3 rfl hx
        rw [q_em_ref hne] at e1
        show W p l e R s m args below meth c H locs _ _ Q (F0 m pc ls (q_em g (.ref x) :: _))
        rw [q_em_ref hne]
        exact row e1 (k H locs ls' h1 h2 e2)
      · cases hs
  · cases hs
theorem q_w_stl {cfg cfg' : q_C} {i n : Nat} (ho : q_op g) (hs : q_stl1 i n cfg = some (.inl cfg')) (row : ∀ {H : Heap} {locs : List Loc} {cells slots : Nat} {ls ls' : Array Slot} {rest : List Value} {x : Int64}, storeLocals ls i (.long x) = some ls' → W p l e R s m args below meth c H locs cells slots Q (F0 m (cfg.1 + n) ls' rest) → W p l e R s m args below meth c H locs cells slots Q (F0 m cfg.1 ls (.long x :: rest))) (k : q_WA p l e R s m args below meth c Q g L S n0 cfg') : q_WA p l e R s m args below meth c Q g L S n0 cfg := by
  obtain ⟨pc, vl, st, X⟩ := cfg
  unfold q_stl1 at hs
  split at hs
  · rename_i x r hst
    have hst' : st = .long x :: r := hst
    subst hst'
    unfold q_to at hs
    split at hs
    · rename_i vl' hx
      cases hs
      intro H locs ls h1 h2 h3
      obtain ⟨ls', e1, e2⟩ := q_store2 ho h3 hx
      exact row e1 (k H locs ls' h1 h2 e2)
    · cases hs
  · cases hs
theorem q_w_inc {cfg cfg' : q_C} {i : Nat} {d : Int} (hexec : p.tables.exec = Jvm.exec) (hb : c.code = cc) (hdg : decode cc cfg.1 = .ok (.iinc i d, 3)) (ho : q_op g) (hs : q_inc i d cfg = some (.inl cfg')) (k : q_WA p l e R s m args below meth c Q g L S n0 cfg') : q_WA p l e R s m args below meth c Q g L S n0 cfg := by
  obtain ⟨pc, vl, st, X⟩ := cfg
  unfold q_inc at hs
  split at hs
  · rename_i x hxl
    unfold q_to at hs
    split at hs
    · rename_i vl' hx
      cases hs
      intro H locs ls h1 h2 h3
      obtain ⟨ls', e1, e2⟩ := q_store1 ho h3 rfl hx
      exact q_r_iinc hexec hb hdg (q_has_at h3 hxl (by intro q; cases q)) e1 (k H locs ls' h1 h2 e2)
    · cases hs
  · cases hs
theorem q_w_bin {cfg cfg' : q_C} {f : Int32 → Int32 → Int32} (hs : q_bin f cfg = some (.inl cfg')) (row : ∀ {H : Heap} {locs : List Loc} {cells slots : Nat} {ls : Array Slot} {rest : List Value} {x z : Int32}, W p l e R s m args below meth c H locs cells slots Q (F0 m (cfg.1 + 1) ls (.int (f x z) :: rest)) → W p l e R s m args below meth c H locs cells slots Q (F0 m cfg.1 ls (.int z :: .int x :: rest))) (k : q_WA p l e R s m args below meth c Q g L S n0 cfg') : q_WA p l e R s m args below meth c Q g L S n0 cfg := by
  obtain ⟨pc, vl, st, X⟩ := cfg
  unfold q_bin at hs
  split at hs
  · rename_i b a r hst
    have hst' : st = .int b :: .int a :: r := hst
    subst hst'
    cases hs
    intro H locs ls h1 h2 h3
    exact row (k H locs ls h1 h2 h3)
  · cases hs
theorem q_w_div {cfg cfg' : q_C} {f : Int32 → Int32 → Int32} (hs : q_div f cfg = some (.inl cfg')) (row : ∀ {H : Heap} {locs : List Loc} {cells slots : Nat} {ls : Array Slot} {rest : List Value} {x z : Int32}, ¬ z = 0 → W p l e R s m args below meth c H locs cells slots Q (F0 m (cfg.1 + 1) ls (.int (f x z) :: rest)) → W p l e R s m args below meth c H locs cells slots Q (F0 m cfg.1 ls (.int z :: .int x :: rest))) (k : q_WA p l e R s m args below meth c Q g L S n0 cfg') : q_WA p l e R s m args below meth c Q g L S n0 cfg := by
  obtain ⟨pc, vl, st, X⟩ := cfg
  unfold q_div at hs
  split at hs
  · rename_i b a r hst
    have hst' : st = .int b :: .int a :: r := hst
    subst hst'
    split at hs
    · cases hs
    · rename_i hne
      cases hs
      intro H locs ls h1 h2 h3
      exact row (fun h => hne (by rw [h]; rfl)) (k H locs ls h1 h2 h3)
  · cases hs
theorem q_w_un {cfg cfg' : q_C} {f : Int32 → Int32} (hs : q_un f cfg = some (.inl cfg')) (row : ∀ {H : Heap} {locs : List Loc} {cells slots : Nat} {ls : Array Slot} {rest : List Value} {x : Int32}, W p l e R s m args below meth c H locs cells slots Q (F0 m (cfg.1 + 1) ls (.int (f x) :: rest)) → W p l e R s m args below meth c H locs cells slots Q (F0 m cfg.1 ls (.int x :: rest))) (k : q_WA p l e R s m args below meth c Q g L S n0 cfg') : q_WA p l e R s m args below meth c Q g L S n0 cfg := by
  obtain ⟨pc, vl, st, X⟩ := cfg
  unfold q_un at hs
  split at hs
  · rename_i a r hst
    have hst' : st = .int a :: r := hst
    subst hst'
    cases hs
    intro H locs ls h1 h2 h3
    exact row (k H locs ls h1 h2 h3)
  · cases hs
theorem q_w_binl {cfg cfg' : q_C} {f : Int64 → Int64 → Int64} (hs : q_binl f cfg = some (.inl cfg')) (row : ∀ {H : Heap} {locs : List Loc} {cells slots : Nat} {ls : Array Slot} {rest : List Value} {x z : Int64}, W p l e R s m args below meth c H locs cells slots Q (F0 m (cfg.1 + 1) ls (.long (f x z) :: rest)) → W p l e R s m args below meth c H locs cells slots Q (F0 m cfg.1 ls (.long z :: .long x :: rest))) (k : q_WA p l e R s m args below meth c Q g L S n0 cfg') : q_WA p l e R s m args below meth c Q g L S n0 cfg := by
  obtain ⟨pc, vl, st, X⟩ := cfg
  unfold q_binl at hs
  split at hs
  · rename_i b a r hst
    have hst' : st = .long b :: .long a :: r := hst
    subst hst'
    cases hs
    intro H locs ls h1 h2 h3
    exact row (k H locs ls h1 h2 h3)
  · cases hs
theorem q_w_lshl {cfg cfg' : q_C} (hexec : p.tables.exec = Jvm.exec) (hb : c.code = cc) (hdg : decode cc cfg.1 = .ok (.lshl, 1)) (hs : q_lshl cfg = some (.inl cfg')) (k : q_WA p l e R s m args below meth c Q g L S n0 cfg') : q_WA p l e R s m args below meth c Q g L S n0 cfg := by
  obtain ⟨pc, vl, st, X⟩ := cfg
  unfold q_lshl at hs
  split at hs
  · rename_i b a r hst
    have hst' : st = .int b :: .long a :: r := hst
    subst hst'
    cases hs
    intro H locs ls h1 h2 h3
    exact lv_lshl hexec hb hdg rfl (k H locs ls h1 h2 h3)
  · cases hs
theorem q_w_lcmp {cfg cfg' : q_C} (hexec : p.tables.exec = Jvm.exec) (hb : c.code = cc) (hdg : decode cc cfg.1 = .ok (.lcmp, 1)) (hs : q_lcmp cfg = some (.inl cfg')) (k : q_WA p l e R s m args below meth c Q g L S n0 cfg') : q_WA p l e R s m args below meth c Q g L S n0 cfg := by
  obtain ⟨pc, vl, st, X⟩ := cfg
  unfold q_lcmp at hs
  split at hs
  · rename_i b a r hst
    have hst' : st = .long b :: .long a :: r := hst
    subst hst'
    cases hs
    intro H locs ls h1 h2 h3
    exact W.lcmp hexec hb hdg (k H locs ls h1 h2 h3)
  · cases hs
theorem q_w_i2l {cfg cfg' : q_C} (hexec : p.tables.exec = Jvm.exec) (hb : c.code = cc) (hdg : decode cc cfg.1 = .ok (.i2l, 1)) (hs : q_i2l cfg = some (.inl cfg')) (k : q_WA p l e R s m args below meth c Q g L S n0 cfg') : q_WA p l e R s m args below meth c Q g L S n0 cfg := by
  obtain ⟨pc, vl, st, X⟩ := cfg
  unfold q_i2l at hs
  split at hs
  · rename_i a r hst
    have hst' : st = .int a :: r := hst
    subst hst'
    cases hs
    intro H locs ls h1 h2 h3
    exact lv_i2l hexec hb hdg rfl (k H locs ls h1 h2 h3)
  · cases hs
theorem q_w_l2i {cfg cfg' : q_C} (hexec : p.tables.exec = Jvm.exec) (hb : c.code = cc) (hdg : decode cc cfg.1 = .ok (.l2i, 1)) (hs : q_l2i cfg = some (.inl cfg')) (k : q_WA p l e R s m args below meth c Q g L S n0 cfg') : q_WA p l e R s m args below meth c Q g L S n0 cfg := by
  obtain ⟨pc, vl, st, X⟩ := cfg
  unfold q_l2i at hs
  split at hs
  · rename_i a r hst
    have hst' : st = .long a :: r := hst
    subst hst'
    cases hs
    intro H locs ls h1 h2 h3
    exact lv_l2i hexec hb hdg rfl (k H locs ls h1 h2 h3)
  · cases hs
theorem q_w_dup {cfg cfg' : q_C} (hexec : p.tables.exec = Jvm.exec) (hb : c.code = cc) (hdg : decode cc cfg.1 = .ok (.dup, 1)) (ho : q_op g) (hs : q_dup cfg = some (.inl cfg')) (k : q_WA p l e R s m args below meth c Q g L S n0 cfg') : q_WA p l e R s m args below meth c Q g L S n0 cfg := by
  obtain ⟨pc, vl, st, X⟩ := cfg
  unfold q_dup at hs
  split at hs
  · rename_i a r hst
    have hst' : st = a :: r := hst
    subst hst'
    split at hs
    · rename_i hcat
      cases hs
      intro H locs ls h1 h2 h3
      exact lv_dup hexec hb hdg (by rw [q_em_cat ho]; exact hcat) (k H locs ls h1 h2 h3)
    · cases hs
  · cases hs
theorem q_w_pop {cfg cfg' : q_C} (hexec : p.tables.exec = Jvm.exec) (hb : c.code = cc) (hdg : decode cc cfg.1 = .ok (.pop, 1)) (ho : q_op g) (hs : q_pop cfg = some (.inl cfg')) (k : q_WA p l e R s m args below meth c Q g L S n0 cfg') : q_WA p l e R s m args below meth c Q g L S n0 cfg := by
  obtain ⟨pc, vl, st, X⟩ := cfg
  unfold q_pop at hs
  split at hs
  · rename_i a r hst
    have hst' : st = a :: r := hst
    subst hst'
    split at hs
    · rename_i hcat
      cases hs
      intro H locs ls h1 h2 h3
      exact lv_pop hexec hb hdg (by rw [q_em_cat ho]; exact hcat) (k H locs ls h1 h2 h3)
    · cases hs
  · cases hs
theorem q_w_dup2 {cfg cfg' : q_C} (hexec : p.tables.exec = Jvm.exec) (hb : c.code = cc) (hdg : decode cc cfg.1 = .ok (.dup2, 1)) (ho : q_op g) (hs : q_dup2 cfg = some (.inl cfg')) (k : q_WA p l e R s m args below meth c Q g L S n0 cfg') : q_WA p l e R s m args below meth c Q g L S n0 cfg := by
  obtain ⟨pc, vl, st, X⟩ := cfg
  unfold q_dup2 at hs
  split at hs
  · rename_i a b r hst
    have hst' : st = a :: b :: r := hst
    subst hst'
    split at hs
    · rename_i hcat
      cases hs
      intro H locs ls h1 h2 h3
      exact lv_dup2_11 hexec hb hdg (by rw [q_em_cat ho]; exact hcat.1) (by rw [q_em_cat ho]; exact hcat.2) (k H locs ls h1 h2 h3)
    · cases hs
  · cases hs
/-- a jump taken -/
theorem q_w_jmp {pc : Nat} {vl st st0 : List Value} {X : q_H} {off : Int} {cfg' : q_C} (hs : q_jmp off st (pc, vl, st0, X) = some (.inl cfg')) (k : q_WA p l e R s m args below meth c Q g L S n0 cfg') : ∃ t : Nat, (pc : Int) + off = (t : Int) ∧ ∀ (H : Heap) (locs : List Loc) (ls : Array Slot), q_Rep g L S X H → va_S (q_A g) s.heap H locs → q_has g ls c.maxLocals vl → W p l e R s m args below meth c H locs (X.1 - n0) (q_us X.1 - q_us n0) Q (F0 m t ls (st.map (q_em g))) := by
  unfold q_jmp at hs
  split at hs
  · rename_i h0
    cases hs
    exact ⟨((pc : Int) + off).toNat, (Int.toNat_of_nonneg h0).symm, k⟩
  · cases hs
theorem q_w_goto {cfg cfg' : q_C} {off : Int} (hexec : p.tables.exec = Jvm.exec) (hb : c.code = cc) (hdg : decode cc cfg.1 = .ok (.goto off, 3)) (hs : q_jmp off cfg.2.2.1 cfg = some (.inl cfg')) (k : q_WA p l e R s m args below meth c Q g L S n0 cfg') : q_WA p l e R s m args below meth c Q g L S n0 cfg := by
  obtain ⟨pc, vl, st, X⟩ := cfg
  obtain ⟨t, ht, kk⟩ := q_w_jmp hs k
  intro H locs ls h1 h2 h3
  exact lv_goto hexec hb hdg ht (kk H locs ls h1 h2 h3)
theorem q_w_cj {pc : Nat} {vl st st0 : List Value} {X : q_H} {b : Bool} {off : Int} {cfg' : q_C} (hs : q_cj b off st (pc, vl, st0, X) = some (.inl cfg')) (k : q_WA p l e R s m args below meth c Q g L S n0 cfg') : ∃ t : Nat, (pc : Int) + off = (t : Int) ∧ ∀ (H : Heap) (locs : List Loc) (ls : Array Slot), q_Rep g L S X H → va_S (q_A g) s.heap H locs → q_has g ls c.maxLocals vl → (b = true → W p l e R s m args below meth c H locs (X.1 - n0) (q_us X.1 - q_us n0) Q (F0 m t ls (st.map (q_em g)))) ∧ (b = false → W p l e R s m args below meth c H locs (X.1 - n0) (q_us X.1 - q_us n0) Q (F0 m (pc + 3) ls (st.map (q_em g)))) := by
  unfold q_cj at hs
  split at hs
  · rename_i h0
    cases hs
    refine ⟨((pc : Int) + off).toNat, (Int.toNat_of_nonneg h0).symm, fun H locs ls h1 h2 h3 => ⟨fun hb => ?_, fun hb => ?_⟩⟩
    · have k1 := k H locs ls h1 h2 h3
      rw [if_pos hb] at k1
      exact k1
    · have k1 := k H locs ls h1 h2 h3
      rw [if_neg (by rw [hb]; decide)] at k1
      exact k1
  · cases hs
theorem q_w_ifc {cfg cfg' : q_C} {o : Jvm.ClassFile.Cond} {off : Int} (hexec : p.tables.exec = Jvm.exec) (hb : c.code = cc) (hdg : decode cc cfg.1 = .ok (.ifCond o off, 3)) (hs : q_ifc o off cfg = some (.inl cfg')) (k : q_WA p l e R s m args below meth c Q g L S n0 cfg') : q_WA p l e R s m args below meth c Q g L S n0 cfg := by
  obtain ⟨pc, vl, st, X⟩ := cfg
  unfold q_ifc at hs
  split at hs
  · rename_i a r hst
    have hst' : st = .int a :: r := hst
    subst hst'
    obtain ⟨t, ht, kk⟩ := q_w_cj hs k
    intro H locs ls h1 h2 h3
    have e0 : (a = 0) ↔ a.toInt = 0 := by rw [← Int32.toInt_zero]; exact Int32.toInt_inj.symm
    have e1 : (a < 0) ↔ a.toInt < 0 := by rw [Int32.lt_iff_toInt_lt, Int32.toInt_zero]
    have e2 : (0 < a) ↔ 0 < a.toInt := by rw [Int32.lt_iff_toInt_lt, Int32.toInt_zero]
    have e3 : (0 ≤ a) ↔ 0 ≤ a.toInt := by rw [Int32.le_iff_toInt_le, Int32.toInt_zero]
    have e4 : (a ≤ 0) ↔ a.toInt ≤ 0 := by rw [Int32.le_iff_toInt_le, Int32.toInt_zero]
    obtain ⟨k1, k2⟩ := kk H locs ls h1 h2 h3
    cases o
    · exact lv_if_eq hexec hb hdg ht (fun h => k1 (by simp [q_cmp]; exact e0.mp h)) (fun h => k2 (by simp [q_cmp]; exact fun q => h (e0.mpr q)))
    · exact lv_if_ne hexec hb hdg ht (fun h => k1 (by simp [q_cmp]; exact fun q => h (e0.mpr q))) (fun h => k2 (by simp [q_cmp]; exact e0.mp h))
    · exact lv_if_lt hexec hb hdg ht (fun h => k1 (by simp [q_cmp]; exact e1.mp h)) (fun h => k2 (by simp [q_cmp]; exact Int.not_lt.mp fun q => h (e1.mpr q)))
    · exact lv_if_ge hexec hb hdg ht (fun h => k1 (by simp [q_cmp]; exact e3.mp h)) (fun h => k2 (by simp [q_cmp]; exact Int.not_le.mp fun q => h (e3.mpr q)))
    · exact lv_if_gt hexec hb hdg ht (fun h => k1 (by simp [q_cmp]; exact e2.mp h)) (fun h => k2 (by simp [q_cmp]; exact Int.not_lt.mp fun q => h (e2.mpr q)))
    · exact lv_if_le hexec hb hdg ht (fun h => k1 (by simp [q_cmp]; exact e4.mp h)) (fun h => k2 (by simp [q_cmp]; exact Int.not_le.mp fun q => h (e4.mpr q)))
  · cases hs
theorem q_w_icm {cfg cfg' : q_C} {o : Jvm.ClassFile.Cond} {off : Int} (hexec : p.tables.exec = Jvm.exec) (hb : c.code = cc) (hdg : decode cc cfg.1 = .ok (.if_icmp o off, 3)) (hs : q_icm o off cfg = some (.inl cfg')) (k : q_WA p l e R s m args below meth c Q g L S n0 cfg') : q_WA p l e R s m args below meth c Q g L S n0 cfg := by
  obtain ⟨pc, vl, st, X⟩ := cfg
  unfold q_icm at hs
  split at hs
  · rename_i b a r hst
    have hst' : st = .int b :: .int a :: r := hst
    subst hst'
    obtain ⟨t, ht, kk⟩ := q_w_cj hs k
    intro H locs ls h1 h2 h3
    have e0 : (a = b) ↔ a.toInt = b.toInt := Int32.toInt_inj.symm
    have e1 : (a < b) ↔ a.toInt < b.toInt := Int32.lt_iff_toInt_lt
    have e2 : (b < a) ↔ b.toInt < a.toInt := Int32.lt_iff_toInt_lt
    have e3 : (b ≤ a) ↔ b.toInt ≤ a.toInt := Int32.le_iff_toInt_le
    have e4 : (a ≤ b) ↔ a.toInt ≤ b.toInt := Int32.le_iff_toInt_le
    obtain ⟨k1, k2⟩ := kk H locs ls h1 h2 h3
    cases o
    · exact lv_icmp_eq hexec hb hdg ht (fun h => k1 (by simp [q_cmp]; exact e0.mp h)) (fun h => k2 (by simp [q_cmp]; exact fun q => h (e0.mpr q)))
    · exact lv_icmp_ne hexec hb hdg ht (fun h => k1 (by simp [q_cmp]; exact fun q => h (e0.mpr q))) (fun h => k2 (by simp [q_cmp]; exact e0.mp h))
    · exact lv_icmp_lt hexec hb hdg ht (fun h => k1 (by simp [q_cmp]; exact e1.mp h)) (fun h => k2 (by simp [q_cmp]; exact Int.not_lt.mp fun q => h (e1.mpr q)))
    · exact lv_icmp_ge hexec hb hdg ht (fun h => k1 (by simp [q_cmp]; exact e3.mp h)) (fun h => k2 (by simp [q_cmp]; exact Int.not_le.mp fun q => h (e3.mpr q)))
    · exact lv_icmp_gt hexec hb hdg ht (fun h => k1 (by simp [q_cmp]; exact e2.mp h)) (fun h => k2 (by simp [q_cmp]; exact Int.not_lt.mp fun q => h (e2.mpr q)))
    · exact lv_icmp_le hexec hb hdg ht (fun h => k1 (by simp [q_cmp]; exact e4.mp h)) (fun h => k2 (by simp [q_cmp]; exact Int.not_le.mp fun q => h (e4.mpr q)))
  · cases hs
theorem q_w_ifnn {cfg cfg' : q_C} {off : Int} (hexec : p.tables.exec = Jvm.exec) (hb : c.code = cc) (hdg : decode cc cfg.1 = .ok (.ifnonnull off, 3)) (hs : q_ifnn off cfg = some (.inl cfg')) (k : q_WA p l e R s m args below meth c Q g L S n0 cfg') : q_WA p l e R s m args below meth c Q g L S n0 cfg := by
  obtain ⟨pc, vl, st, X⟩ := cfg
  unfold q_ifnn at hs
  split at hs
  · rename_i r hst
    have hst' : st = .null :: r := hst
    subst hst'
    cases hs
    intro H locs ls h1 h2 h3
    exact lv_ifnonnullN hexec hb hdg (k H locs ls h1 h2 h3)
  · rename_i x r hst
    have hst' : st = .ref x :: r := hst
    subst hst'
    split at hs
    · cases hs
    · rename_i hne
      obtain ⟨t, ht, kk⟩ := q_w_jmp hs k
      intro H locs ls h1 h2 h3
      show W p l e R s m args below meth c H locs _ _ Q (F0 m pc ls (q_em g (.ref x) :: _))
      rw [q_em_ref hne]
      exact lv_ifnonnull hexec hb hdg ht (kk H locs ls h1 h2 h3)
  · cases hs
theorem q_w_tsw {cfg cfg' : q_C} {d lo hi : Int} {os : Array Int} {n : Nat} (hexec : p.tables.exec = Jvm.exec) (hb : c.code = cc) (hdg : decode cc cfg.1 = .ok (.tableswitch d lo hi os, n)) (hs : q_tsw d lo hi os cfg = some (.inl cfg')) (k : q_WA p l e R s m args below meth c Q g L S n0 cfg') : q_WA p l e R s m args below meth c Q g L S n0 cfg := by
  obtain ⟨pc, vl, st, X⟩ := cfg
  unfold q_tsw at hs
  split at hs
  · rename_i a r hst
    have hst' : st = .int a :: r := hst
    subst hst'
    split at hs
    · rename_i hout
      obtain ⟨t, ht, kk⟩ := q_w_jmp hs k
      intro H locs ls h1 h2 h3
      exact lv_tableOut hexec hb hdg hout ht (kk H locs ls h1 h2 h3)
    · rename_i hin
      split at hs
      · rename_i off ho
        obtain ⟨t, ht, kk⟩ := q_w_jmp hs k
        intro H locs ls h1 h2 h3
        exact lv_tableIn hexec hb hdg (fun q => hin (Or.inl q)) (fun q => hin (Or.inr q)) ho ht (kk H locs ls h1 h2 h3)
      · cases hs
  · cases hs
theorem q_w_lsw {cfg cfg' : q_C} {d : Int} {ps : Array (Int × Int)} {n : Nat} (hexec : p.tables.exec = Jvm.exec) (hb : c.code = cc) (hdg : decode cc cfg.1 = .ok (.lookupswitch d ps, n)) (hs : q_lsw d ps cfg = some (.inl cfg')) (k : q_WA p l e R s m args below meth c Q g L S n0 cfg') : q_WA p l e R s m args below meth c Q g L S n0 cfg := by
  obtain ⟨pc, vl, st, X⟩ := cfg
  unfold q_lsw at hs
  split at hs
  · rename_i a r hst
    have hst' : st = .int a :: r := hst
    subst hst'
    split at hs
    · rename_i hps
      obtain ⟨t, ht, kk⟩ := q_w_jmp hs k
      intro H locs ls h1 h2 h3
      exact lv_lookup hexec hb hdg hps rfl ht (kk H locs ls h1 h2 h3)
    · cases hs
  · cases hs
end QW
