/-! runs: the heap only grows; a run gives the method's contract -/
theorem q_mono_back {r : Option q_Rs} {rest : List Value} {c c' : q_C} {X0 : q_H} (h : ∀ v X', r = some (v, X') → X0.1 ≤ X'.1) (hs : q_back r rest c = some (.inl c')) : X0.1 ≤ c'.2.2.2.1 := by
  unfold q_back at hs
  split at hs
  · cases hs
    exact h _ _ rfl
  · cases hs
theorem q_mono_callv {O : q_O} (hO : ∀ y vs X r X', O y vs X = some (r, X') → X.1 ≤ X'.1) {z n : Nat} {c c' : q_C} (hs : q_callv O z n c = some (.inl c')) : c.2.2.2.1 ≤ c'.2.2.2.1 := by
  unfold q_callv at hs
  split at hs
  · split at hs
    · exact q_mono_back (fun v X' h => hO _ _ _ _ _ h) hs
    · cases hs
  · cases hs
theorem q_mono_calls {O : q_O} (hO : ∀ y vs X r X', O y vs X = some (r, X') → X.1 ≤ X'.1) {z n : Nat} {c c' : q_C} (hs : q_calls O z n c = some (.inl c')) : c.2.2.2.1 ≤ c'.2.2.2.1 := by
  unfold q_calls at hs
  split at hs
  · exact q_mono_back (fun v X' h => hO _ _ _ _ _ h) hs
  · cases hs
theorem q_mono_step {O : q_O} (hO : ∀ y vs X r X', O y vs X = some (r, X') → X.1 ≤ X'.1) {y : Nat} {i : Instr} {c c' : q_C} (hs : q_step O y i c = some (.inl c')) : c.2.2.2.1 ≤ c'.2.2.2.1 := by
  cases i with
  | invokespecial k =>
    simp only [q_step, q_inp] at hs
    split at hs
    · exact q_mono_callv hO hs
    · exact q_mono_callv hO hs
    · split at hs
      · split at hs
        · cases hs; exact Nat.le_refl _
        · cases hs
      · cases hs
    · cases hs
  | invokestatic k =>
    simp only [q_step, q_ins] at hs
    split at hs
    · exact q_mono_calls hO hs
    · unfold q_copy at hs
      split at hs
      · split at hs
        · cases hs; exact Nat.le_refl _
        · cases hs
      · cases hs
    all_goals
      first
        | (cases hs; done)
        | (simp only [q_mat2, q_mat1] at hs
           repeat' split at hs
           all_goals first | (cases hs; done) | (cases hs; exact Nat.le_refl _))
  | invokevirtual k =>
    simp only [q_step, q_inv] at hs
    split at hs
    · exact q_mono_callv hO hs
    · cases hs
  | _ =>
    first
      | (cases hs; done)
      | (simp only [q_step, q_push, q_ldi, q_ldl, q_lda, q_sti, q_sta, q_stl1, q_to, q_inc, q_bin, q_div, q_un, q_binl, q_lshl, q_lcmp, q_i2l, q_l2i, q_dup, q_pop, q_dup2, q_jmp, q_cj, q_ifc, q_icm, q_ifnn, q_tsw, q_lsw, q_getf, q_putf, q_gets, q_ald, q_sti1, q_stj1, q_stb1, q_str1, q_alen, q_new, q_newa, q_newr, q_ldc, q_ldc2, q_iret, q_lret, q_vret] at hs
         repeat' split at hs
         all_goals first | (cases hs; done) | (cases hs; exact Nat.le_refl _) | (cases hs; exact Nat.le_succ _))
theorem q_step_inr {O : q_O} {y : Nat} {i : Instr} {c : q_C} {r : q_Rs} (hs : q_step O y i c = some (.inr r)) : (i = .ireturn ∧ ∃ t v, q_mr y = some t ∧ c.2.2.1 = [.int v] ∧ narrow t (.int v) = .int v ∧ r = (some (.int v), c.2.2.2)) ∨ (i = .lreturn ∧ ∃ v, q_mr y = some .long ∧ c.2.2.1 = [.long v] ∧ r = (some (.long v), c.2.2.2)) ∨ (i = .return_ ∧ q_mr y = none ∧ c.2.2.1 = [] ∧ r = (none, c.2.2.2)) := by
  cases i with
  | ireturn =>
    left
    refine ⟨rfl, ?_⟩
    simp only [q_step, q_iret] at hs
    split at hs
    · rename_i t v h1 h2
      split at hs
      · rename_i h3
        cases hs
        exact ⟨t, v, h1, h2, h3, rfl⟩
      · cases hs
    · cases hs
  | lreturn =>
    right; left
    refine ⟨rfl, ?_⟩
    simp only [q_step, q_lret] at hs
    split at hs
    · rename_i v h1 h2
      cases hs
      exact ⟨v, h1, h2, rfl⟩
    · cases hs
  | return_ =>
    right; right
    refine ⟨rfl, ?_⟩
    simp only [q_step, q_vret] at hs
    split at hs
    · rename_i h1 h2
      cases hs
      exact ⟨h1, h2, rfl⟩
    · cases hs
  | invokespecial k =>
    exfalso
    simp only [q_step, q_inp, q_callv, q_back] at hs
    repeat' split at hs
    all_goals first | (cases hs; done)
  | invokestatic k =>
    exfalso
    simp only [q_step, q_ins, q_calls, q_back, q_copy, q_mat2, q_mat1] at hs
    repeat' split at hs
    all_goals first | (cases hs; done)
  | invokevirtual k =>
    exfalso
    simp only [q_step, q_inv, q_callv, q_back] at hs
    repeat' split at hs
    all_goals first | (cases hs; done)
  | _ =>
    exfalso
    first
      | (cases hs; done)
      | (simp only [q_step, q_push, q_ldi, q_ldl, q_lda, q_sti, q_sta, q_stl1, q_to, q_inc, q_bin, q_div, q_un, q_binl, q_lshl, q_lcmp, q_i2l, q_l2i, q_dup, q_pop, q_dup2, q_jmp, q_cj, q_ifc, q_icm, q_ifnn, q_tsw, q_lsw, q_getf, q_putf, q_gets, q_ald, q_sti1, q_stj1, q_stb1, q_str1, q_alen, q_new, q_newa, q_newr, q_ldc, q_ldc2] at hs
         repeat' split at hs
         all_goals first | (cases hs; done))
theorem q_mono_go {O : q_O} (hO : ∀ y vs X r X', O y vs X = some (r, X') → X.1 ≤ X'.1) {y : Nat} : ∀ (n : Nat) (c : q_C) (r : Option Value) (X' : q_H), q_go O y n c = some (r, X') → c.2.2.2.1 ≤ X'.1 := by
  intro n
  induction n with
  | zero => intro c r X' h; cases h
  | succ n ih =>
    intro c r X' h
    unfold q_go at h
    split at h
    · cases h
    · split at h
      · cases h
      · rename_i c' hs
        exact Nat.le_trans (q_mono_step hO hs) (ih _ _ _ h)
      · rename_i r' hs
        cases h
        rcases q_step_inr hs with ⟨-, t, v, -, -, -, h1⟩ | ⟨-, v, -, -, h1⟩ | ⟨-, -, -, h1⟩ <;> (cases h1; exact Nat.le_refl _)
theorem q_mono_run : ∀ (n d y : Nat) (vs : List Value) (X : q_H) (r : Option Value) (X' : q_H), q_run n d y vs X = some (r, X') → X.1 ≤ X'.1 := by
  intro n d
  induction d with
  | zero => intro y vs X r X' h; cases h
  | succ d ih =>
    intro y vs X r X' h
    unfold q_run at h
    split at h
    · exact q_mono_go (fun y vs X r X' h => ih y vs X r X' h) n _ r X' h
    · cases h
/-- the table of method y tells its code, and the pool of its class is what the tables say -/
def q_okt (y : Nat) : Prop := (∀ pc i, q_fetch y pc = some i → decode (q_mc y) pc = .ok i ∧ (q_ln i.1 = 0 ∨ q_ln i.1 = i.2)) ∧ ∀ k e, q_pool (q_mo y) k = some e → q_ok (q_mo y) k e
section QRUN
variable {p : Program} {l : Launch} {e : Env} {R : Room} {s : State} {m : MethodId} {args : Array Value} {below : List Frame} {meth : Method} {c : Code} {Q : State → Prop} {g : q_G} {L n0 y : Nat} {S : Nat → Value}
/-- a run from a point: W, if W holds at its answer -/
theorem q_w_go {O : q_O} {d : Nat} {r : Option Value} {Xf : q_H} (K : q_Cx p s m args meth c g L S n0 y) (hT : q_okt y) (hO : q_Snd l O d) (hOm : ∀ y vs X r X', O y vs X = some (r, X') → X.1 ≤ X'.1) (hroom : d + 1 ≤ R.frames ∧ d * 64 + 64 ≤ R.locals) (hcap : Xf.1 - n0 ≤ R.cells ∧ q_us Xf.1 - q_us n0 ≤ R.slots)
    (hend : ∀ cfg i n, decode (q_mc y) cfg.1 = .ok (i, n) → (q_ln i = 0 ∨ q_ln i = n) → q_step O y i cfg = some (.inr (r, Xf)) → q_WA p l e R s m args below meth c Q g L S n0 cfg) : ∀ (n : Nat) (cfg : q_C), q_go O y n cfg = some (r, Xf) → n0 ≤ cfg.2.2.2.1 → q_WA p l e R s m args below meth c Q g L S n0 cfg := by
  intro n
  induction n with
  | zero => intro cfg h; cases h
  | succ n ih =>
    intro cfg h hn0
    unfold q_go at h
    split at h
    · cases h
    · rename_i i hf
      have hd := hT.1 _ _ hf
      split at h
      · cases h
      · rename_i c' hs
        have hm1 := q_mono_step hOm hs
        have hm2 := q_mono_go hOm _ _ _ _ h
        have hu := q_us_mono hm2
        exact q_w_step K ⟨i.2, hd.1, hd.2⟩ hT.2 hO hroom hs hn0 ⟨by omega, by omega⟩ (ih c' h (Nat.le_trans hn0 hm1))
      · rename_i r' hs
        cases h
        exact hend cfg i.1 i.2 hd.1 hd.2 hs
end QRUN
theorem q_args_em {g : q_G} (ho : q_op g) : ∀ vs : List Value, (lg_sl (vs.map (q_em g))).length = (q_args vs).length ∧ ∀ (i : Nat) (v : Value), (q_args vs)[i]? = some v → v ≠ .null → (lg_sl (vs.map (q_em g)))[i]? = some (.val (q_em g v)) := by
  intro vs
  induction vs with
  | nil => exact ⟨rfl, fun i v h => by cases h⟩
  | cons w vs ih =>
    have hc := q_em_cat ho w
    by_cases h2 : w.category = 2
    · have e1 : lg_sl ((w :: vs).map (q_em g)) = .val (q_em g w) :: .second :: lg_sl (vs.map (q_em g)) := by
        simp [lg_sl, hc, h2]
      have e2 : q_args (w :: vs) = w :: .null :: q_args vs := by simp [q_args, h2]
      rw [e1, e2]
      refine ⟨by simp [ih.1], fun i v hi hn => ?_⟩
      match i, hi with
      | 0, hi => cases hi; rfl
      | 1, hi => cases hi; exact absurd rfl hn
      | i + 2, hi => exact ih.2 i v hi hn
    · have e1 : lg_sl ((w :: vs).map (q_em g)) = .val (q_em g w) :: lg_sl (vs.map (q_em g)) := by
        simp [lg_sl, hc, h2]
      have e2 : q_args (w :: vs) = w :: q_args vs := by simp [q_args, h2]
      rw [e1, e2]
      refine ⟨by simp [ih.1], fun i v hi hn => ?_⟩
      match i, hi with
      | 0, hi => cases hi; rfl
      | i + 1, hi => exact ih.2 i v hi hn
theorem q_has_entry {g : q_G} (ho : q_op g) (vs : List Value) (n : Nat) (h : (q_args vs).length ≤ n) : q_has g ((lg_sl (vs.map (q_em g)) ++ List.replicate (n - (lg_sl (vs.map (q_em g))).length) Slot.unset).toArray) n (q_entry n vs) := by
  obtain ⟨h1, h2⟩ := q_args_em ho vs
  have h3 := lv_entry (vs.map (q_em g)) (n := n) (by omega)
  refine ⟨h3.1, h3.2.1, ?_, fun i v hi hn => ?_⟩
  · unfold q_entry
    rw [List.length_append, List.length_replicate]
    omega
  · unfold q_entry at hi
    rw [List.getElem?_toArray]
    by_cases hl : i < (q_args vs).length
    · rw [List.getElem?_append_left hl] at hi
      rw [List.getElem?_append_left (by omega)]
      exact h2 i v hi hn
    · rw [List.getElem?_append_right (by omega)] at hi
      exact absurd (List.eq_of_mem_replicate (List.mem_of_getElem? hi)) hn
theorem q_snd (l : Launch) (HV : ∀ y n, q_okm y n → q_okt y ∧ plainName (q_my y).cls = true) (n : Nat) : ∀ d, q_Snd l (q_run n d) d := by
  intro d
  induction d with
  | zero => intro y k vs X r X' h; cases h
  | succ d ih =>
    intro y k vs X r X' h
    refine ⟨q_mono_run n (d + 1) y vs X r X' h, fun hok g L S => ?_⟩
    obtain ⟨hT, hpl⟩ := HV y k hok
    unfold q_run at h
    split at h
    · rename_i hlen
      refine Met.ofW (cc := q_mc y) (maxL := q_ml y) (ret := q_mr y) hpl rfl ?_
      intro p e s m args below meth c s₁ B hml hv
      obtain ⟨rfl, hRep, hK, hNF, hRO, ho⟩ := hv
      have hts := atoms_spec (ws := q_ws y) B.pre
      have hown : s.vm.findClass (q_my y).cls = some m.cls := findClass_of_methodNamed B.named
      rw [hok.2.2.2.2.2] at hown
      have K : q_Cx p s m (vs.map (q_em g)).toArray meth c g L S X.1 y := ⟨B.exec, B.bytes, hown, fun w hw => hts w (List.mem_cons_of_mem _ hw), hK, hNF, hRO, ho, hRep.1, fun h => (name_of_methodNamed B.named B.method).1.trans h, hml⟩
      have hlocks := B.notSynchronized
      have hr := B.returns
      have hm2 := q_mono_go (fun y vs X r X' h => q_mono_run n d y vs X r X' h) _ _ _ _ h
      have hW := q_w_go (l := l) (e := e) (R := q_rm (d + 1) X X') (below := below) (Q := MQ below (q_Qc g L S r X') (vs.map (q_em g)).toArray s (X'.1 - X.1) (q_us X'.1 - q_us X.1) (q_A g)) K hT ih (fun y vs X r X' h => q_mono_run n d y vs X r X' h) ⟨Nat.le_refl _, by show d * 64 + 64 ≤ (d + 1) * 64; omega⟩ ⟨Nat.le_refl _, Nat.le_refl _⟩ (fun cfg i k' hdg hln hs => by
        obtain ⟨pc, vl, st, Xc⟩ := cfg
        intro H locs ls h1 h2 h3
        have hq : ∀ (rv : Option Value) (t : State), Xc = X' → r = rv → t.heap = H → q_Qc g L S r X' (vs.map (q_em g)).toArray s (.returned (rv.map (q_em g))) t := by
          intro rv t e1 e2 ht
          subst e1; subst e2
          refine ⟨rfl, by rw [ht]; exact h1, fun q hq => ?_⟩
          rw [ht]
          have hsz := hRep.1
          exact h2.2.1 q (by omega) (Nat.not_le.mpr hq)
        rcases q_step_inr hs with ⟨rfl, t, v, e1, e2, e3, e4⟩ | ⟨rfl, v, e1, e2, e4⟩ | ⟨rfl, e1, e2, e4⟩
        · cases e4
          cases hln.resolve_left (by decide)
          have e2' : st = [.int v] := e2
          subst e2'
          exact W.zret B.exec B.bytes (hr.trans e1) e3 (fun t ht _ => hq (some (.int v)) t rfl rfl ht) h2.2.2 hdg hlocks
        · cases e4
          cases hln.resolve_left (by decide)
          have e2' : st = [.long v] := e2
          subst e2'
          exact W.lret B.exec B.bytes (hr.trans e1) (fun t ht _ => hq (some (.long v)) t rfl rfl ht) h2.2.2 hdg hlocks
        · cases e4
          cases hln.resolve_left (by decide)
          have e2' : st = [] := e2
          subst e2'
          exact W.vret B.exec B.bytes (hr.trans e1) (fun t ht _ => hq none t rfl rfl ht) h2.2.2 hdg hlocks) n (0, q_entry (q_ml y) vs, [], X) h (Nat.le_refl _)
      rw [lg_entry_eq]
      have hent := q_has_entry ho vs (q_ml y) hlen
      rw [← hml] at hent
      have k1 := hW s.heap [] _ hRep va_S.rf (by rw [← hml]; exact hent)
      rw [hml] at k1
      exact W.cs (Nat.sub_self _).symm (Nat.sub_self _).symm k1
    · cases h
