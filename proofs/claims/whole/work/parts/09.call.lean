/-! calls and answers of the abstract machine; one step; a whole run -/
def q_rm (d : Nat) (X X' : q_H) : Room := { frames := d, cells := X'.1 - X.1, slots := q_us X'.1 - q_us X.1, locals := d * 64 }
def q_Pc (g : q_G) (L : Nat) (S : Nat → Value) (vs : List Value) (X : q_H) : Array Value → State → Prop := fun a U => a = (vs.map (q_em g)).toArray ∧ q_Rep g L S X U.heap ∧ q_K g U ∧ q_NF g U ∧ q_RO g L S U U.heap ∧ q_op g
def q_Qc (g : q_G) (L : Nat) (S : Nat → Value) (r : Option Value) (X' : q_H) : Array Value → State → Outcome → State → Prop := fun _ st o t => o = .returned (r.map (q_em g)) ∧ q_Rep g L S X' t.heap ∧ ∀ q, q < g.1 → t.heap[q]? = st.heap[q]?
/-- the oracle is sound at depth d: the heap only grows, and the method's contract holds -/
def q_Snd (l : Launch) (O : q_O) (d : Nat) : Prop := ∀ (y n : Nat) (vs : List Value) (X : q_H) (r : Option Value) (X' : q_H), O y vs X = some (r, X') → X.1 ≤ X'.1 ∧ (q_okm y n → ∀ (g : q_G) (L : Nat) (S : Nat → Value), Met l (q_my y) (q_ws y) (q_rm d X X') (q_Pc g L S vs X) (q_Qc g L S r X') (X'.1 - X.1) (q_us X'.1 - q_us X.1) (q_A g))
theorem q_NF_moved {g : q_G} {s U : State} (hW : s.WarmedH U.vm) (h : q_NF g s) : q_NF g U := by
  obtain ⟨h1, h2, h3, h4⟩ := h
  refine ⟨fun w hw => ?_, fun j q hq => vk_R.warm hW (h2 j q hq), va_AO.moved hW.alike h3, va_AO.moved hW.alike h4⟩
  have h5 := h1 w hw
  have hform : (∃ (a : String) (i : Nat) (x : MethodName) (h : String), w = .methodLinkNest a i x h) ∨ ∃ (a : String) (i : Nat) (b n d h : String), w = .fieldLinkNest a i b n d h := by
    simp only [q_nest, List.mem_cons, List.not_mem_nil, or_false] at hw
    rcases hw with rfl | rfl | rfl | rfl | rfl | rfl | rfl | rfl <;> first | exact Or.inl ⟨_, _, _, _, rfl⟩ | exact Or.inr ⟨_, _, _, _, _, _, rfl⟩
  rcases hform with ⟨a, i, x, h, rfl⟩ | ⟨a, i, b, n, d, h, rfl⟩
  · exact va_Nw.warmM hW h5
  · exact va_Nw.warmF hW h5
theorem q_NF_same {g : q_G} {s U : State} (hv : s.vm = U.vm) (h : q_NF g s) : q_NF g U := by
  obtain ⟨h1, h2, h3, h4⟩ := h
  refine ⟨fun w hw => ?_, fun j q hq => vk_R.same hv.symm (h2 j q hq), va_AO.moved (by rw [hv]; exact Vm.Alike.refl _) h3, va_AO.moved (by rw [hv]; exact Vm.Alike.refl _) h4⟩
  have h5 := h1 w hw
  refine va_Nw.same ?_ hv h5
  simp only [q_nest, List.mem_cons, List.not_mem_nil, or_false] at hw
  rcases hw with rfl | rfl | rfl | rfl | rfl | rfl | rfl | rfl <;> rfl
theorem q_RO_moved {g : q_G} {L : Nat} {S : Nat → Value} {s U : State} {H : Heap} (hvm : s.vm.Alike U.vm) (h : q_RO g L S s H) : q_RO g L S U H :=
  ⟨fun a h1 h2 => va_T.moved hvm (h.1 a h1 h2), fun q hq => va_Z.moved hvm (h.2.1 q hq), vk_S.moved hvm h.2.2⟩
theorem q_RO_kept {g : q_G} {L : Nat} {S : Nat → Value} {U : State} {H H1 : Heap} (h : q_RO g L S U H) (hq : ∀ a : Nat, a < H.size → ¬ q_A g a → H1[a]? = H[a]?) : q_RO g L S U H1 :=
  ⟨fun a h1 h2 => (h.1 a h1 h2).kept hq, fun q hq' => (h.2.1 q hq').kept hq, vk_S.kept h.2.2 hq⟩
theorem q_Pc_blind (g : q_G) (L : Nat) (S : Nat → Value) (vs : List Value) (X : q_H) : FrameBlind (q_Pc g L S vs X) := fun a U f mk h => by
  obtain ⟨h1, h2, h3, h4, h5, h6⟩ := h
  exact ⟨h1, h2, va_K.moved (u := U) (U := U.calling f mk a) (Vm.Alike.refl U.vm) h3, q_NF_same (s := U) rfl h4, q_RO_moved (s := U) (U := U.calling f mk a) (Vm.Alike.refl U.vm) h5, h6⟩
section QCALL
variable {p : Program} {l : Launch} {e : Env} {R : Room} {s : State} {m : MethodId} {args : Array Value} {below : List Frame} {meth : Method} {c : Code} {Q : State → Prop} {g : q_G} {L n0 y : Nat} {S : Nat → Value}
/-- the premise of a call, at a point of the machine -/
theorem q_pre (K : q_Cx p s m args meth c g L S n0 y) {H : Heap} {locs : List Loc} {X : q_H} {vs : List Value} (h1 : q_Rep g L S X H) (h2 : va_S (q_A g) s.heap H locs) : ∀ U : State, U.heap = H → s.WarmedH U.vm → q_Pc g L S vs X (vs.map (q_em g)).toArray U := by
  obtain ⟨hx, hb, hown, hts, hK, hNF, hRO, ho, hz, hnm, hml⟩ := K
  intro U hU hW
  refine ⟨rfl, by rw [hU]; exact h1, va_K.moved hW.alike hK, q_NF_moved hW hNF, ?_, ho⟩
  rw [hU]
  exact q_RO_moved hW.alike (q_RO_kept hRO h2.2.1)
/-- behind a call -/
theorem q_after {H : Heap} {locs : List Loc} {cells slots mc ms pc : Nat} {ls : Array Slot} {st0 rest : List Value} {r : Option Value} {X X' : q_H} {av : Array Value}
    (hr : va_Run p l e R s m args below meth c H locs cells slots mc ms (F0 m pc ls st0) rest (q_Qc g L S r X' av) (q_A g)) (h1 : q_Rep g L S X H) (hmono : X.1 ≤ X'.1) (h2 : va_S (q_A g) s.heap H locs) (hs0 : g.1 ≤ s.heap.size)
    (kk : ∀ (H1 : Heap) (locs1 : List Loc), q_Rep g L S X' H1 → va_S (q_A g) s.heap H1 locs1 → W p l e R s m args below meth c H1 locs1 (cells + mc) (slots + ms) Q (F0 m (pc + 3) ls ((r.map (q_em g)).toList ++ rest))) : W p l e R s m args below meth c H locs cells slots Q (F0 m pc ls st0) := by
  intro T hT X0
  obtain ⟨v, st₀, t, T', L', h0, X', hL, e1, e2, ⟨hv, hR, hk⟩, st⟩ := hr T hT X0
  cases hv
  have hsz1 : t.heap.size = g.1 + _ := hR.1
  have hsz0 := h1.1
  obtain ⟨t2, a1, b1⟩ := kk t.heap (locs ++ L') hR ⟨by have := h2.1; omega, fun q q1 q2 => by
      have hq : q < g.1 := Nat.not_le.mp q2
      rw [hk q hq, h0]
      exact h2.2.1 q q1 q2, fun q hq => by
      rcases List.mem_append.mp hq with h | h
      · exact h2.2.2 q h
      · exact hL q h⟩ T' e1 X'
  exact ⟨t2, st t2 a1, b1⟩
end QCALL
