/-! calls and answers of the abstract machine; one step; a whole run -/
def q_rm (d : Nat) (X X' : q_H) : Room := { frames := d, cells := X'.1 - X.1, slots := q_us X'.1 - q_us X.1, locals := d * 64 }
def q_Pc (g : q_G) (L : Nat) (S : Nat → Value) (vs : List Value) (X : q_H) : Array Value → State → Prop := fun a U => a = (vs.map (q_em g)).toArray ∧ q_Rep g L S X U.heap ∧ q_K g U ∧ q_NF g U ∧ q_RO g L S U U.heap ∧ q_op g
def q_Qc (g : q_G) (L : Nat) (S : Nat → Value) (r : Option Value) (X' : q_H) : Array Value → State → Outcome → State → Prop := fun _ st o t => o = .returned (r.map (q_em g)) ∧ q_Rep g L S X' t.heap ∧ ∀ q, q < g.1 → t.heap[q]? = st.heap[q]?
/-- the oracle is sound at depth d: the heap only grows, and the method's contract holds -/
def q_Snd (l : Launch) (O : q_O) (d : Nat) : Prop := ∀ (y n : Nat) (vs : List Value) (X : q_H) (r : Option Value) (X' : q_H), O y vs X = some (r, X') → X.1 ≤ X'.1 ∧ (q_okm y n → ∀ (g : q_G) (L : Nat) (S : Nat → Value), Met l (q_my y) (q_ws y) (q_rm d X X') (q_Pc g L S vs X) (q_Qc g L S r X') (X'.1 - X.1) (q_us X'.1 - q_us X.1) (q_A g))
theorem q_NF_moved {g : q_G} {s U : State} (hW : s.WarmedH U.vm) (h : q_NF g s) : q_NF g U := by
  obtain ⟨h1, h2, h3, h4⟩ := h
  refine ⟨fun w hw => ?_, fun j q hq => vk_R.warm hW (h2 j q hq), va_AO.moved hW.alike h3, va_AO.moved hW.alike h4⟩
  have h5 := h1 w hw
  have hform : (∃ (a : String) (i : Nat) (x : MethodName) (h : String), w = .methodLinkNest a i x h) ∨ ∃ (a : String) (i : Nat) (b n d h : String), w = .fieldLinkNest a i b n d h := by
    simp only [q_nest, List.mem_cons, List.not_mem_nil, or_false] at hw
    rcases hw with rfl | rfl | rfl | rfl | rfl | rfl | rfl | rfl <;> first | exact Or.inl ⟨_, _, _, _, rfl⟩ | exact Or.inr ⟨_, _, _, _, _, _, rfl⟩
  rcases hform with ⟨a, i, x, h, rfl⟩ | ⟨a, i, b, n, d, h, rfl⟩
  · exact va_Nw.warmM hW h5
  · exact va_Nw.warmF hW h5
theorem q_NF_same {g : q_G} {s U : State} (hv : s.vm = U.vm) (h : q_NF g s) : q_NF g U := by
  obtain ⟨h1, h2, h3, h4⟩ := h
  refine ⟨fun w hw => ?_, fun j q hq => vk_R.same hv.symm (h2 j q hq), va_AO.moved (by rw [hv]; exact Vm.Alike.refl _) h3, va_AO.moved (by rw [hv]; exact Vm.Alike.refl _) h4⟩
  have h5 := h1 w hw
  refine va_Nw.same ?_ hv h5
  simp only [q_nest, List.mem_cons, List.not_mem_nil, or_false] at hw
  rcases hw with rfl | rfl | rfl | rfl | rfl | rfl | rfl | rfl <;> rfl
theorem q_RO_moved {g : q_G} {L : Nat} {S : Nat → Value} {s U : State} {H : Heap} (hvm : s.vm.Alike U.vm) (h : q_RO g L S s H) : q_RO g L S U H :=
  ⟨fun a h1 h2 => va_T.moved hvm (h.1 a h1 h2), fun q hq => va_Z.moved hvm (h.2.1 q hq), vk_S.moved hvm h.2.2⟩
theorem q_RO_kept {g : q_G} {L : Nat} {S : Nat → Value} {U : State} {H H1 : Heap} (h : q_RO g L S U H) (hq : ∀ a : Nat, a < H.size → ¬ q_A g a → H1[a]? = H[a]?) : q_RO g L S U H1 :=
  ⟨fun a h1 h2 => (h.1 a h1 h2).kept hq, fun q hq' => (h.2.1 q hq').kept hq, vk_S.kept h.2.2 hq⟩
theorem q_Pc_blind (g : q_G) (L : Nat) (S : Nat → Value) (vs : List Value) (X : q_H) : FrameBlind (q_Pc g L S vs X) := fun a U f mk h => by
  obtain ⟨h1, h2, h3, h4, h5, h6⟩ := h
  exact ⟨h1, h2, va_K.moved (u := U) (U := U.calling f mk a) (Vm.Alike.refl U.vm) h3, q_NF_same (s := U) rfl h4, q_RO_moved (s := U) (U := U.calling f mk a) (Vm.Alike.refl U.vm) h5, h6⟩
section QCALL
variable {p : Program} {l : Launch} {e : Env} {R : Room} {s : State} {m : MethodId} {args : Array Value} {below : List Frame} {meth : Method} {c : Code} {Q : State → Prop} {g : q_G} {L n0 y : Nat} {S : Nat → Value}
/-- the premise of a call, at a point of the machine -/
theorem q_pre (K : q_Cx p s m args meth c g L S n0 y) {H : Heap} {locs : List Loc} {X : q_H} {vs : List Value} (h1 : q_Rep g L S X H) (h2 : va_S (q_A g) s.heap H locs) : ∀ U : State, U.heap = H → s.WarmedH U.vm → q_Pc g L S vs X (vs.map (q_em g)).toArray U := by
  obtain ⟨hx, hb, hown, hts, hK, hNF, hRO, ho, hz, hnm, hml⟩ := K
  intro U hU hW
  refine ⟨rfl, by rw [hU]; exact h1, va_K.moved hW.alike hK, q_NF_moved hW hNF, ?_, ho⟩
  rw [hU]
  exact q_RO_moved hW.alike (q_RO_kept hRO h2.2.1)
/-- behind a call -/
theorem q_after {H : Heap} {locs : List Loc} {cells slots mc ms pc : Nat} {ls : Array Slot} {st0 rest : List Value} {r : Option Value} {X X' : q_H} {av : Array Value}
    (hr : va_Run p l e R s m args below meth c H locs cells slots mc ms (F0 m pc ls st0) rest (q_Qc g L S r X' av) (q_A g)) (h1 : q_Rep g L S X H) (hmono : X.1 ≤ X'.1) (h2 : va_S (q_A g) s.heap H locs) (hs0 : g.1 ≤ s.heap.size)
    (kk : ∀ (H1 : Heap) (locs1 : List Loc), q_Rep g L S X' H1 → va_S (q_A g) s.heap H1 locs1 → W p l e R s m args below meth c H1 locs1 (cells + mc) (slots + ms) Q (F0 m (pc + 3) ls ((r.map (q_em g)).toList ++ rest))) : W p l e R s m args below meth c H locs cells slots Q (F0 m pc ls st0) := by
  intro T hT X0
  obtain ⟨v, st₀, t, T', L', h0, X', hL, e1, e2, ⟨hv, hR, hk⟩, st⟩ := hr T hT X0
  cases hv
  have hsz1 : t.heap.size = g.1 + _ := hR.1
  have hsz0 := h1.1
  obtain ⟨t2, a1, b1⟩ := kk t.heap (locs ++ L') hR ⟨by have := h2.1; omega, fun q q1 q2 => by
      have hq : q < g.1 := Nat.not_le.mp q2
      rw [hk q hq, h0]
      exact h2.2.1 q q1 q2, fun q hq => by
      rcases List.mem_append.mp hq with h | h
      · exact h2.2.2 q h
      · exact hL q h⟩ T' e1 X'
  exact ⟨t2, st t2 a1, b1⟩
theorem q_recv (K : q_Cx p s m args meth c g L S n0 y) {H : Heap} {locs : List Loc} {X : q_H} {a z : Nat} (h1 : q_Rep g L S X H) (h2 : va_S (q_A g) s.heap H locs) (hlive : a < X.1 ∨ 1000 ≤ a) (hk : (q_sh a).1 = q_kd (q_mo z)) (hk10 : (q_sh a).1 ≤ 10) (hown : (q_my z).cls = q_own.getD (q_mo z) "") : q_em g (.ref a) = .ref (q_ad g a) ∧ ∃ cellB : Cell, H[q_ad g a]? = some cellB ∧ cellB.vm.isStatics = false ∧ s.vm.findClass (q_my z).cls = some cellB.cls := by
  obtain ⟨hx, hb, hown', hts, hK, hNF, hRO, ho, hz, hnm, hml⟩ := K
  have hX : X.1 ≤ 1000 := h1.2.1
  by_cases halo : a < X.1
  · have ha : a < 1000 := by omega
    have hsl := q_sh_lo ha
    refine ⟨q_em_ref (by omega), ?_⟩
    rw [q_ad_lo ha]
    obtain ⟨cell, q1, q2, q3, q4⟩ := q_obj h1 halo (by omega)
    have h10 : (q_sh a).1 < 10 := by omega
    refine ⟨cell, q1, by rw [q3]; rfl, ?_⟩
    rw [hown, ← q_own_kind hk.symm h10, q2]
    exact (q_Kn hK h10).2.1
  · have ha : 1000 ≤ a := hlive.elim (fun h => absurd h halo) id
    have hi : ∃ j, j < 6 ∧ a = 1010 + j := by
      rcases q_sh_hi ha with ⟨z1, -⟩ | ⟨z1, zz⟩ | ⟨z1, -⟩ | z1
      · omega
      · exact zz
      · omega
      · omega
    obtain ⟨j, hj, rfl⟩ := hi
    have hkk : (q_sh (1010 + j)).1 = 10 := by
      rcases q_sh_hi ha with ⟨z1, -⟩ | ⟨z1, zz⟩ | ⟨z1, -⟩ | z1 <;> omega
    refine ⟨q_em_ref (by omega), ?_⟩
    rw [q_ad_hi ha]
    have hstr : (q_my z).cls = "java/lang/String" := by
      rw [hown]
      by_cases h20 : q_mo z < 20
      · exact q_kd_str _ h20 (by rw [← hk]; exact hkk)
      · have := q_kd_out (o := q_mo z) (by omega)
        omega
    rw [hstr]
    exact vk_recv (i := j) hRO.2.2 hj h2
theorem q_take_drop {α : Type} {st rest : List α} {n : Nat} {v : α} (h : st.drop n = v :: rest) : n ≤ st.length ∧ st = st.take n ++ v :: rest := by
  refine ⟨?_, by rw [← h, List.take_append_drop]⟩
  apply Nat.le_of_lt
  apply Nat.lt_of_not_le
  intro q
  rw [List.drop_eq_nil_of_le q] at h
  cases h
theorem q_goodV {o i z n : Nat} {a b : Value} (h : q_ok o i (2, z, n, a)) : GoodIn lw_good (wsV (q_own.getD o "") i (q_my z).cls (q_my z) (q_ws z)) := by
  obtain ⟨h1, h2, h3, h4⟩ := h
  intro w hw
  have hin : w ∈ lw_good := by
    unfold wsV q_ws at hw
    simp only [List.cons_append, List.nil_append, List.mem_cons] at hw
    rcases hw with rfl | rfl | rfl | rfl | rfl | hw
    · exact h2
    · exact h3
    · exact h4
    · exact h1.2.1
    · exact h1.1
    · exact hw
  exact ⟨hin, good_of_word (List.mem_filter.mp hin).2⟩
theorem q_goodS {o i z n : Nat} {a : Value} (h : q_ok o i (3, z, n, a)) : GoodIn lw_good (va_wsS (q_own.getD o "") i (q_my z) (q_ws z)) := by
  obtain ⟨h1, h2, h3⟩ := h
  intro w hw
  have hin : w ∈ lw_good := by
    unfold va_wsS q_ws at hw
    simp only [List.cons_append, List.nil_append, List.mem_cons] at hw
    rcases hw with rfl | rfl | rfl | rfl | hw
    · exact h2
    · exact h3
    · exact h1.2.1
    · exact h1.1
    · exact hw
  exact ⟨hin, good_of_word (List.mem_filter.mp hin).2⟩
theorem q_goodW {z n : Nat} (h : q_okm z n) : GoodIn lw_good (q_ws z) := lw_goodIn h.1
theorem q_w_callv {O : q_O} {d i : Nat} {cfg cfg' : q_C} (K : q_Cx p s m args meth c g L S n0 y) (hO : q_Snd l O d) (hroom : d + 1 ≤ R.frames ∧ d * 64 + 64 ≤ R.locals) {z n : Nat} (hok : q_okm z n) (hs : q_callv O z n cfg = some (.inl cfg')) (hn0 : n0 ≤ cfg.2.2.2.1) (hcap : cfg'.2.2.2.1 - n0 ≤ R.cells ∧ q_us cfg'.2.2.2.1 - q_us n0 ≤ R.slots) (k : q_WA p l e R s m args below meth c Q g L S n0 cfg')
    (run : ∀ {H : Heap} {locs : List Loc} {cells slots mc ms : Nat} {ls : Array Slot} {b : Nat} {As rest : List Value} {rm : Room} {Pc : Array Value → State → Prop} {Qc : Array Value → State → Outcome → State → Prop}, rm.cells = mc → rm.slots = ms → rm.frames + 1 ≤ R.frames ∧ 8 + (q_ml z + 11) + rm.locals ≤ R.locals → Met l (q_my z) (q_ws z) rm Pc Qc mc ms (q_A g) → FrameBlind Pc → (∃ cellB : Cell, H[b]? = some cellB ∧ cellB.vm.isStatics = false ∧ s.vm.findClass (q_my z).cls = some cellB.cls) → (∀ U : State, U.heap = H → s.WarmedH U.vm → Pc (Value.ref b :: As).toArray U) → As.length = n → ls.size = c.maxLocals → (rest.map fun v => v.category).sum ≤ 8 → cells + mc ≤ R.cells ∧ slots + ms ≤ R.slots →
      va_Run p l e R s m args below meth c H locs cells slots mc ms (F0 m cfg.1 ls (As.reverse ++ .ref b :: rest)) rest (Qc (Value.ref b :: As).toArray) (q_A g)) : q_WA p l e R s m args below meth c Q g L S n0 cfg := by
  obtain ⟨pc, vl, st, X⟩ := cfg
  unfold q_callv at hs
  split at hs
  · rename_i a rest hst
    change Nat at a
    split at hs
    · rename_i hcond
      obtain ⟨hwt, hlive, hk, hk10⟩ := hcond
      unfold q_back at hs
      split at hs
      · rename_i r X' hrun
        cases hs
        obtain ⟨hmono, hM⟩ := hO z n _ X r X' hrun
        have hM := hM hok g L S
        have hn0 : n0 ≤ X.1 := hn0
        have hu1 := q_us_mono hn0
        have hu2 := q_us_mono hmono
        have hcap : X'.1 - n0 ≤ R.cells ∧ q_us X'.1 - q_us n0 ≤ R.slots := hcap
        obtain ⟨hnl, hst2⟩ := q_take_drop hst
        have hnl : n ≤ st.length := hnl
        intro H locs ls h1 h2 h3
        obtain ⟨hre, hcell⟩ := q_recv K h1 h2 hlive hk hk10 hok.2.2.2.2.2
        have hpre := q_pre K (vs := .ref a :: (st.take n).reverse) h1 h2
        rw [List.map_cons, hre] at hpre
        have hml : q_ml z ≤ 40 := hok.2.2.2.2.1
        have hr := run (locs := locs) (mc := X'.1 - X.1) (ms := q_us X'.1 - q_us X.1) (cells := X.1 - n0) (slots := q_us X.1 - q_us n0) (ls := ls) (rest := rest.map (q_em g)) (b := q_ad g a) (As := (st.take n).reverse.map (q_em g)) rfl rfl (by
            refine ⟨?_, ?_⟩
            · show d + 1 ≤ _; exact hroom.1
            · show 8 + (q_ml z + 11) + d * 64 ≤ _; omega) hM (q_Pc_blind g L S _ X) hcell hpre (by rw [List.length_map, List.length_reverse, List.length_take]; exact Nat.min_eq_left hnl) h3.1 (by rw [q_em_wt K.2.2.2.2.2.2.2.1]; exact hwt) ⟨by omega, by omega⟩
        have hstk : ((st.take n).reverse.map (q_em g)).reverse ++ Value.ref (q_ad g a) :: rest.map (q_em g) = st.map (q_em g) := by
          rw [← List.map_reverse, List.reverse_reverse]
          conv => rhs; rw [show st = st.take n ++ Value.ref a :: rest from hst2]
          rw [List.map_append, List.map_cons, hre]
        rw [hstk] at hr
        have hsz : g.1 ≤ s.heap.size := by rw [K.2.2.2.2.2.2.2.2.1]; exact Nat.le_add_right _ _
        refine q_after hr h1 hmono h2 hsz fun H1 locs1 hR1 hS1 => ?_
        have k1 := k H1 locs1 ls hR1 hS1 h3
        have e5 : ((r.map (q_em g)).toList ++ rest.map (q_em g)) = (r.toList ++ rest).map (q_em g) := by
          cases r <;> rfl
        rw [e5]
        refine W.cs ?_ ?_ k1
        · show X.1 - n0 + (X'.1 - X.1) = X'.1 - n0
          omega
        · show q_us X.1 - q_us n0 + (q_us X'.1 - q_us X.1) = q_us X'.1 - q_us n0
          omega
      · cases hs
    · cases hs
  · cases hs
theorem q_w_calls {O : q_O} {d i : Nat} {cfg cfg' : q_C} (K : q_Cx p s m args meth c g L S n0 y) (hdg : decode (q_mc y) cfg.1 = .ok (.invokestatic i, 3)) (hO : q_Snd l O d) (hroom : d + 1 ≤ R.frames ∧ d * 64 + 64 ≤ R.locals) {z n : Nat} {v0 : Value} (hok : q_ok (q_mo y) i (3, z, n, v0)) (hs : q_calls O z n cfg = some (.inl cfg')) (hn0 : n0 ≤ cfg.2.2.2.1) (hcap : cfg'.2.2.2.1 - n0 ≤ R.cells ∧ q_us cfg'.2.2.2.1 - q_us n0 ≤ R.slots) (k : q_WA p l e R s m args below meth c Q g L S n0 cfg') : q_WA p l e R s m args below meth c Q g L S n0 cfg := by
  obtain ⟨pc, vl, st, X⟩ := cfg
  unfold q_calls at hs
  split at hs
  · rename_i hcond
    obtain ⟨hnl, hwt⟩ := hcond
    have hnl : n ≤ st.length := hnl
    unfold q_back at hs
    split at hs
    · rename_i r X' hrun
      cases hs
      obtain ⟨hmono, hM⟩ := hO z n _ X r X' hrun
      have hM := hM hok.1 g L S
      have hn0 : n0 ≤ X.1 := hn0
      have hu1 := q_us_mono hn0
      have hu2 := q_us_mono hmono
      have hcap : X'.1 - n0 ≤ R.cells ∧ q_us X'.1 - q_us n0 ≤ R.slots := hcap
      intro H locs ls h1 h2 h3
      have hpre := q_pre K (vs := (st.take n).reverse) h1 h2
      obtain ⟨hx, hb, hown, hts, hK, hNF, hRO, ho, hz, hnm, hml'⟩ := K
      have hml : q_ml z ≤ 40 := hok.1.2.2.2.2.1
      have hstk : ((st.take n).reverse.map (q_em g)).reverse ++ (st.drop n).map (q_em g) = st.map (q_em g) := by
        rw [← List.map_reverse, List.reverse_reverse, ← List.map_append, List.take_append_drop]
      have hr := va_runS (p := p) (m := m) (locs := locs) (below := below) (meth := meth) (cells := X.1 - n0) (slots := q_us X.1 - q_us n0) (e := e) (R := R) (As := (st.take n).reverse.map (q_em g)) (rest := (st.drop n).map (q_em g)) (g := F0 m pc ls (st.map (q_em g))) (nL := c.maxLocals) ⟨hx, hb, rfl, hown, hts⟩ hM (va_cwS n hts (q_goodS hok) rfl rfl rfl ⟨hok.1.2.2.1.1, hok.1.2.2.1.2, hok.1.2.2.2.1⟩ (by
            refine ⟨?_, ?_⟩
            · show d + 1 ≤ _; exact hroom.1
            · show 8 + (q_ml z + 11) + d * 64 ≤ _; omega)) ⟨q_Pc_blind g L S _ X, hpre⟩ rfl (by rw [List.length_map, List.length_reverse, List.length_take]; exact Nat.min_eq_left hnl) h3.1 hstk.symm (lv_room (by rw [q_em_wt ho]; exact hwt)) hdg (by refine ⟨?_, ?_⟩ <;> omega)
      have hsz : g.1 ≤ s.heap.size := by rw [hz]; exact Nat.le_add_right _ _
      refine q_after hr h1 hmono h2 hsz fun H1 locs1 hR1 hS1 => ?_
      have k1 := k H1 locs1 ls hR1 hS1 h3
      have e5 : ((r.map (q_em g)).toList ++ (st.drop n).map (q_em g)) = (r.toList ++ st.drop n).map (q_em g) := by
        cases r <;> simp
      rw [e5]
      refine W.cs ?_ ?_ k1
      · show X.1 - n0 + (X'.1 - X.1) = X'.1 - n0
        omega
      · show q_us X.1 - q_us n0 + (q_us X'.1 - q_us X.1) = q_us X'.1 - q_us n0
        omega
    · cases hs
  · cases hs
theorem q_w_inv {O : q_O} {d i : Nat} {cfg cfg' : q_C} (K : q_Cx p s m args meth c g L S n0 y) (hdg : decode (q_mc y) cfg.1 = .ok (.invokevirtual i, 3)) (HP : ∀ e, q_pool (q_mo y) i = some e → q_ok (q_mo y) i e) (hO : q_Snd l O d) (hroom : d + 1 ≤ R.frames ∧ d * 64 + 64 ≤ R.locals) (hs : q_inv O (q_pool (q_mo y)) i cfg = some (.inl cfg')) (hn0 : n0 ≤ cfg.2.2.2.1) (hcap : cfg'.2.2.2.1 - n0 ≤ R.cells ∧ q_us cfg'.2.2.2.1 - q_us n0 ≤ R.slots) (k : q_WA p l e R s m args below meth c Q g L S n0 cfg') : q_WA p l e R s m args below meth c Q g L S n0 cfg := by
  unfold q_inv at hs
  split at hs
  · rename_i z n v0 hp
    have hok := HP _ hp
    refine q_w_callv (i := i) K hO hroom hok.1 hs hn0 hcap k ?_
    obtain ⟨hx, hb, hown, hts, hK, hNF, hRO, ho, hz, hnm, hml'⟩ := K
    intro H locs cells slots mc ms ls b As rest rm Pc Qc e1 e2 e3 hM e4 e5 e6 e7 e8 e9 e10
    exact va_runV (nL := c.maxLocals) ⟨hx, hb, rfl, hown, hts⟩ hM (cwV n hts (q_goodV (b := .null) hok) rfl e1 e2 ⟨rfl, hok.1.2.2.1.1, hok.1.2.2.1.2, hok.1.2.2.2.1⟩ e3) ⟨e4, e5, e6⟩ rfl e7 e8 rfl (lv_room e9) hdg e10
  · cases hs
theorem q_w_ins {O : q_O} {d i : Nat} {cfg cfg' : q_C} (K : q_Cx p s m args meth c g L S n0 y) (hdg : decode (q_mc y) cfg.1 = .ok (.invokestatic i, 3)) (HP : ∀ e, q_pool (q_mo y) i = some e → q_ok (q_mo y) i e) (hO : q_Snd l O d) (hroom : d + 1 ≤ R.frames ∧ d * 64 + 64 ≤ R.locals) (hs : q_ins O (q_pool (q_mo y)) i cfg = some (.inl cfg')) (hn0 : n0 ≤ cfg.2.2.2.1) (hcap : cfg'.2.2.2.1 - n0 ≤ R.cells ∧ q_us cfg'.2.2.2.1 - q_us n0 ≤ R.slots) (k : q_WA p l e R s m args below meth c Q g L S n0 cfg') : q_WA p l e R s m args below meth c Q g L S n0 cfg := by
  unfold q_ins at hs
  split at hs
  · rename_i z n v0 hp
    exact q_w_calls K hdg hO hroom (HP _ hp) hs hn0 hcap k
  · rename_i z1 z2 z3 hp
    exact q_w_copy K hdg (HP _ hp) ⟨by omega, by have : nativeFrameWords "java/lang/System" "arraycopy" 5 ≤ 45 := by decide
                                                 omega⟩ hs k
  · rename_i z1 z2 z3 hp
    obtain ⟨p1, p2, p3, p4⟩ := HP _ hp
    obtain ⟨hx, hb, hown, hts, hK, hNF, hRO, ho, hz, hnm, hml'⟩ := K
    obtain ⟨pc, vl, st, X⟩ := cfg
    unfold q_mat2 at hs
    split at hs
    · rename_i b a r hst
      have hst' : st = .int b :: .int a :: r := hst
      subst hst'
      split at hs
      · rename_i hwt
        cases hs
        have hcap : X.1 - n0 ≤ R.cells ∧ q_us X.1 - q_us n0 ≤ R.slots := hcap
        intro H locs ls h1 h2 h3
        have k1 := k H locs ls h1 h2 h3
        have hw9 := q_em_wt ho r
        have e9 : q_imax a b = if a < b then b else a := by
          unfold q_imax
          simp only [Int32.lt_iff_toInt_lt]
        simp only [List.map_cons, q_em_int, e9] at k1
        exact va_mmax hx hb h3.1.symm hown (hts _ p1) (hts _ p2) (hts _ p3) (hts _ p4) (by omega) (by rw [hw9]; omega) hcap.1 hcap.2 hdg k1
      · cases hs
    · cases hs
  · rename_i z1 z2 z3 hp
    obtain ⟨p1, p2, p3, p4⟩ := HP _ hp
    obtain ⟨hx, hb, hown, hts, hK, hNF, hRO, ho, hz, hnm, hml'⟩ := K
    obtain ⟨pc, vl, st, X⟩ := cfg
    unfold q_mat2 at hs
    split at hs
    · rename_i b a r hst
      have hst' : st = .int b :: .int a :: r := hst
      subst hst'
      split at hs
      · rename_i hwt
        cases hs
        have hcap : X.1 - n0 ≤ R.cells ∧ q_us X.1 - q_us n0 ≤ R.slots := hcap
        intro H locs ls h1 h2 h3
        have k1 := k H locs ls h1 h2 h3
        have hw9 := q_em_wt ho r
        have e9 : q_imin a b = if b < a then b else a := by
          unfold q_imin
          simp only [Int32.lt_iff_toInt_lt]
        simp only [List.map_cons, q_em_int, e9] at k1
        exact va_mmin hx hb h3.1.symm hown (hts _ p1) (hts _ p2) (hts _ p3) (hts _ p4) (by omega) (by rw [hw9]; omega) hcap.1 hcap.2 hdg k1
      · cases hs
    · cases hs
  · rename_i z1 z2 z3 hp
    obtain ⟨p1, p2, p3, p4⟩ := HP _ hp
    obtain ⟨hx, hb, hown, hts, hK, hNF, hRO, ho, hz, hnm, hml'⟩ := K
    obtain ⟨pc, vl, st, X⟩ := cfg
    unfold q_mat1 at hs
    split at hs
    · rename_i a r hst
      have hst' : st = .int a :: r := hst
      subst hst'
      split at hs
      · rename_i hwt
        cases hs
        have hcap : X.1 - n0 ≤ R.cells ∧ q_us X.1 - q_us n0 ≤ R.slots := hcap
        intro H locs ls h1 h2 h3
        have k1 := k H locs ls h1 h2 h3
        have hw9 := q_em_wt ho r
        have e9 : q_iabs a = if 0 ≤ a then a else 0 - a := by
          unfold q_iabs
          simp only [Int32.le_iff_toInt_le, Int32.toInt_zero]
        simp only [List.map_cons, q_em_int, e9] at k1
        exact va_mabs hx hb h3.1.symm hown (hts _ p1) (hts _ p2) (hts _ p3) (hts _ p4) (by omega) (by rw [hw9]; omega) hcap.1 hcap.2 hdg k1
      · cases hs
    · cases hs
  · cases hs
theorem q_w_inp {O : q_O} {d i : Nat} {cfg cfg' : q_C} (K : q_Cx p s m args meth c g L S n0 y) (hdg : decode (q_mc y) cfg.1 = .ok (.invokespecial i, 3)) (HP : ∀ e, q_pool (q_mo y) i = some e → q_ok (q_mo y) i e) (hO : q_Snd l O d) (hroom : d + 1 ≤ R.frames ∧ d * 64 + 64 ≤ R.locals) (hs : q_inp O (q_pool (q_mo y)) i cfg = some (.inl cfg')) (hn0 : n0 ≤ cfg.2.2.2.1) (hcap : cfg'.2.2.2.1 - n0 ≤ R.cells ∧ q_us cfg'.2.2.2.1 - q_us n0 ≤ R.slots) (k : q_WA p l e R s m args below meth c Q g L S n0 cfg') : q_WA p l e R s m args below meth c Q g L S n0 cfg := by
  unfold q_inp at hs
  split at hs
  · rename_i z n v0 hp
    obtain ⟨hok, hl, hin, hnm1, hret⟩ := HP _ hp
    refine q_w_callv (i := i) K hO hroom hok hs hn0 hcap k ?_
    obtain ⟨hx, hb, hown, hts, hK, hNF, hRO, ho, hz, hnm, hml'⟩ := K
    intro H locs cells slots mc ms ls b As rest rm Pc Qc e1 e2 e3 hM e4 e5 e6 e7 e8 e9 e10
    exact va_runI (nL := c.maxLocals) ⟨hx, hb, rfl, hown, hts⟩ hM (cwI n hts (q_goodW hok) (by unfold q_ws; rw [hret]) e1 e2 (hts _ hok.2.1) (hts _ hl) (hts _ hin) hnm1 ⟨hok.2.2.1.1, hok.2.2.1.2, hok.2.2.2.1⟩ e3) ⟨e4, e6⟩ rfl e7 e8 rfl (lv_room e9) hdg e10
  · rename_i z n v0 hp
    obtain ⟨hok, hl, hin, hnm1, hret⟩ := HP _ hp
    refine q_w_callv (i := i) K hO hroom hok hs hn0 hcap k ?_
    obtain ⟨hx, hb, hown, hts, hK, hNF, hRO, ho, hz, hnm, hml'⟩ := K
    intro H locs cells slots mc ms ls b As rest rm Pc Qc e1 e2 e3 hM e4 e5 e6 e7 e8 e9 e10
    exact va_runIN (nL := c.maxLocals) ⟨hx, hb, rfl, hown, hts⟩ hM ⟨va_cnB n hts (q_goodW hok) (by unfold q_ws; rw [hret]) e1 e2 (hNF.1 _ hl) (hts _ hok.2.1) ⟨hok.2.2.1.1, hok.2.2.1.2, hok.2.2.2.1⟩ e3, hnm1, hts _ hin⟩ ⟨e4, e6⟩ rfl e7 e8 rfl (lv_room e9) hdg e10
  · rename_i z1 z2 z3 hp
    obtain ⟨hl, hin, hcd⟩ := HP _ hp
    obtain ⟨hx, hb, hown, hts, hK, hNF, hRO, ho, hz, hnm, hml'⟩ := K
    obtain ⟨pc, vl, st, X⟩ := cfg
    split at hs
    · rename_i a r hst
      have hst' : st = .ref a :: r := hst
      subst hst'
      split at hs
      · rename_i hwt
        obtain ⟨hne, hwt⟩ := hwt
        cases hs
        intro H locs ls h1 h2 h3
        show W p l e R s m args below meth c H locs _ _ Q (F0 m pc ls (q_em g (.ref a) :: _))
        rw [q_em_ref hne]
        have k1 := k H locs ls h1 h2 h3
        have hw9 := q_em_wt ho r
        exact W.objInit hx hb hown (hts _ hl) (hts _ hin) (hts _ hcd) rfl h3.1 rfl hdg (by omega) (by
          show 2 * 0 + ((r.map (q_em g)).map fun v => v.category).sum + 12 ≤ _
          rw [hw9]
          omega) k1
      · cases hs
    · cases hs
  · cases hs
end QCALL
