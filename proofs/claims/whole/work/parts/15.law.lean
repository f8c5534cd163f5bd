/-! THE CLAIM OUT OF ONE WALK OF THE LAW'S BODY. Your part is whole_start (and what it stands on); all else here is the same for every law, but numbers. -/
def R_law : String := "BellsThatEatLaw"
def lw_P (b : Addr) (xs : List Int32) (args : Array Value) (s : State) : Prop := args = #[.ref b] ∧ s.IntsAt b xs ∧ xs.length ≤ 3072 ∧ (Jvm.Cond.and given_1 narrow_1).before args s = true
def lw_Q (_ : Array Value) (s : State) (o : Outcome) (t : State) : Prop := o = .returned (some (.int 1)) ∧ Framed s o t [] 600000 7302250
def lw_Z (below : List Frame) (a : Array Value) (s : State) : State → Prop := fun t => ∃ o, t.status = .running ∧ Ended t below o ∧ lw_Q a s o t
/-- the law's own end, with 1 on the stack, nothing written that was there before, its room as the claim has it -/
theorem lw_ret {p : Program} {l : Launch} {e : Env} {s : State} {m : MethodId} {below : List Frame} {meth : Method} {c : Code} {b : Nat} (hx : p.tables.exec = Jvm.exec) (hb : c.code = code) (hr : meth.sig.returnType = ret) (hlocks : meth.locks = false) {pc : Nat} {H : Heap} {ls : Array Slot} (hdg : decode code pc = .ok (.ireturn, 1)) : W p l e room_1 s m #[Value.ref b] below meth c H [] 600000 7302250 (lw_Z below #[Value.ref b] s) (F0 m pc ls [.int 1]) := by
  intro T hT X
  obtain ⟨fs, hret, hrun, hended, hW, hframe⟩ := X.leave (v := some (.int 1)) (hlocks := hlocks) (fun h => by rw [hr] at h; cases h)
  have hmeth' : T.vm.method? m = some meth := X.method'
  refine ⟨T.setFrames fs, ?_, .returned (some (.int 1)), hrun, hended, rfl, ⟨_, rfl⟩, hW, hframe⟩
  jvm_step X.here [X.here.top, hx, hb, hdg, hmeth', hr, ret, narrow_b1]
  (try refine ⟨rfl, ?_⟩); (try refine ⟨rfl, ?_⟩)
  first | (intro acts; rw [hret _ acts rfl rfl rfl]) | rw [hret _ _ rfl rfl rfl]
  exact Steps.refl _
/-- what holds at the law's entry: the machine, the code, the tables' words (any of lw_tbl by 'hts w (by decide +kernel)'), the script of L ints xs at the cell b, what the Statement gives of the start (any of its parts by flat_of_before) -/
def lw_At (p : Program) (s : State) (m : MethodId) (meth : Method) (c : Code) (b L : Nat) (xs : Nat → Int32) : Prop :=
  p.tables.exec = Jvm.exec ∧ c.code = code ∧ meth.sig.returnType = ret ∧ c.maxLocals = 4 ∧ s.vm.findClass R_law = some m.cls ∧ (∀ w ∈ lw_tbl, w.before #[Value.ref b] s = true) ∧ va_X b L xs s s.heap ∧ b < s.heap.size ∧ meth.locks = false ∧ (Jvm.Cond.and given_1 narrow_1).before #[Value.ref b] s = true
theorem q_mo_lt (y : Nat) : q_mo y < q_nO := by
  by_cases h : y < q_nY
  · have h2 : ∀ y, y < q_nY → q_mo y < q_nO := by decide +kernel
    exact h2 y h
  · unfold q_mo q_m
    rw [List.getD_eq_getElem?_getD, List.getElem?_eq_none (by
      have hl : q_mL.length = q_nY := by decide +kernel
      omega)]
    decide
theorem q_HV (y n : Nat) (h : q_okm y n) : q_okt y ∧ plainName (q_my y).cls = true := by
  refine ⟨q_okt_all y, ?_⟩
  rw [h.2.2.2.2.2]
  have h2 : ∀ o, o < q_nO → plainName (q_own.getD o "") = true := by decide +kernel
  exact h2 _ (q_mo_lt y)
/-- the heap before the law: nothing made; the script of length L -/
def q_X0 (L : Nat) (xs : Nat → Int32) : q_H := (0, L, fun _ j => .int (xs j))
/-- what is left to show: the abstract machine runs the law to 1 -/
def q_Pure (L : Nat) (xs : Nat → Int32) : Prop := ∃ (n d : Nat) (X' : q_H), d ≤ 1000 ∧ q_run n (d + 1) q_nL [.ref 1000] (q_X0 L xs) = some (some (.int 1), X') ∧ X'.1 ≤ 600000 ∧ q_us X'.1 ≤ 7302250
theorem q_law {p : Program} {e : Env} {s : State} {m : MethodId} {below : List Frame} {meth : Method} {c : Code} (l : Launch) {b L : Nat} {xs : Nat → Int32} (hL : L ≤ 3072) (C0 : lw_At p s m meth c b L xs) (hp : q_Pure L xs) : W p l e room_1 s m #[Value.ref b] below meth c s.heap [] 0 0 (lw_Z below #[Value.ref b] s) (entryFrame m ([Value.ref b] : List Value).toArray 4) := by
  obtain ⟨hx, hb, hr, hml, hown, hts, hX, hbl, hlocks, hgv⟩ := C0
  obtain ⟨n, d, X', hd, hrun, hc1, hc2⟩ := hp
  obtain ⟨g, hg, hg0, ho, hK, hNF, hRO⟩ := q_start hL hts hX hgv
  have K : q_Cx p s m #[Value.ref b] meth c g L (fun j => .int (xs j)) 0 q_nL := ⟨hx, hb, hown, fun w hw => hts w (List.mem_filter.mp hw).1, hK, hNF, hRO, ho, by rw [hg]; rfl, fun h => absurd h (by decide +kernel), hml⟩
  have hRep : q_Rep g L (fun j => .int (xs j)) (q_X0 L xs) s.heap := ⟨by rw [hg]; rfl, Nat.zero_le _, ⟨rfl, rfl⟩, fun a ha => absurd ha (Nat.not_lt_zero a)⟩
  have hrun' : q_go (q_run n d) q_nL n (0, q_entry (q_ml q_nL) [.ref 1000], [], q_X0 L xs) = some (some (.int 1), X') := by
    unfold q_run at hrun
    rw [if_pos (by decide +kernel)] at hrun
    exact hrun
  have hW := q_w_go (l := l) (e := e) (R := room_1) (below := below) (Q := lw_Z below #[Value.ref b] s) K (q_okt_all q_nL) (q_snd l q_HV n d) (fun y vs X r X' h => q_mono_run n d y vs X r X' h) ⟨by show d + 1 ≤ 2048; omega, by show d * 64 + 64 ≤ 84000; omega⟩ ⟨by show X'.1 - 0 ≤ 600000; omega, by show q_us X'.1 - q_us 0 ≤ 7302250; omega⟩ (fun cfg i k hdg hln hs => by
    obtain ⟨pc, vl, st, Xc⟩ := cfg
    intro H locs ls h1 h2 h3
    rcases q_step_inr hs with ⟨rfl, t, v, e1, e2, e3, e4⟩ | ⟨rfl, v, e1, e2, e4⟩ | ⟨rfl, e1, e2, e4⟩
    · obtain ⟨e5, rfl⟩ := Prod.mk.inj e4
      cases e5
      cases hln.resolve_left (by decide)
      have e2' : st = [.int 1] := e2
      subst e2'
      refine va_forget (fun q hq => by have := h2.2.2 q hq; rw [← hg]; exact this) ?_
      exact W.widen (k := 600000) (n := 7302250) (by show X'.1 - 0 ≤ 600000; omega) (by show q_us X'.1 - q_us 0 ≤ 7302250; omega) (lw_ret hx hb hr hlocks hdg)
    · cases e4
    · cases e4) n (0, q_entry (q_ml q_nL) [.ref 1000], [], q_X0 L xs) hrun' (Nat.le_refl _)
  rw [lg_entry_eq]
  have hent := q_has_entry ho [.ref 1000] 4 (by decide)
  have e0 : ([.ref 1000] : List Value).map (q_em g) = [.ref b] := by
    show [q_em g (.ref 1000)] = _
    rw [q_em_ref (by decide), q_ad_hi (by decide), hg0]
  rw [e0] at hent
  have k1 := hW s.heap [] _ hRep va_S.rf (by rw [hml]; exact hent)
  have e1 : ([] : List Value).map (q_em g) = [] := rfl
  exact k1
