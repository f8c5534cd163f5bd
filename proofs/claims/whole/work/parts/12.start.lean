/-! the start: what the Statement gives makes the machine's context -/
def q_tm (i : Nat) : Term := .string (q_strs.getD i ("", 0, "")).1 (q_strs.getD i ("", 0, "")).2.1
def q_fl : List Jvm.Cond := flatC (Jvm.Cond.and given_1 narrow_1)
def q_TL : Term := .static "BellsThatEat" "FIRST_LIKING" "[I"
def q_TA : Term := .static "BellsThatEat" "KIND_ABOVE" "[I"
def q_TB : Term := .static "BellsThatEat$Acts" "BODIES" "[I"
theorem q_fl1 : Jvm.Cond.arrayOf q_TL .int ∈ q_fl ∧ Jvm.Cond.eq (.length q_TL) (.int (Int32.ofNat 4)) ∈ q_fl ∧ ∀ j, j < 4 → Jvm.Cond.eq (.elem q_TL (.int (Int32.ofNat j))) (.int (q_ro1 j)) ∈ q_fl := by decide +kernel
theorem q_fl2 : Jvm.Cond.arrayOf q_TA .int ∈ q_fl ∧ Jvm.Cond.eq (.length q_TA) (.int (Int32.ofNat 7)) ∈ q_fl ∧ ∀ j, j < 7 → Jvm.Cond.eq (.elem q_TA (.int (Int32.ofNat j))) (.int (q_ro2 j)) ∈ q_fl := by decide +kernel
theorem q_fl3 : Jvm.Cond.arrayOf q_TB .int ∈ q_fl ∧ Jvm.Cond.eq (.length q_TB) (.int (Int32.ofNat 21)) ∈ q_fl ∧ ∀ j, j < 21 → Jvm.Cond.eq (.elem q_TB (.int (Int32.ofNat j))) (.int (q_ro3 j)) ∈ q_fl := by decide +kernel
theorem q_fl4 : Jvm.Cond.eq (.static "java/lang/String" "COMPACT_STRINGS" "Z") (.int 1) ∈ q_fl ∧ Jvm.Cond.isRef (.static "jdk/internal/util/Preconditions" "SIOOBE_FORMATTER" "Ljava/util/function/BiFunction;") ∈ q_fl := by decide +kernel
theorem q_fl5 : ∀ i, i < 6 → Jvm.Cond.exactly (q_tm i) "java/lang/String" ∈ q_fl ∧ Jvm.Cond.eq (.field (q_tm i) "java/lang/String" "coder" "B") (.int 0) ∈ q_fl ∧ Jvm.Cond.arrayOf (.field (q_tm i) "java/lang/String" "value" "[B") .byte ∈ q_fl ∧ Jvm.Cond.eq (.length (.field (q_tm i) "java/lang/String" "value" "[B")) (.int (Int32.ofNat (q_stl.getD i 0))) ∈ q_fl := by decide +kernel
theorem q_fl6 : ∀ i, i < 6 → ∀ j, j < q_stl.getD i 0 → Jvm.Cond.eq (.elem (.field (q_tm i) "java/lang/String" "value" "[B") (.int (Int32.ofNat j))) (.int ((q_stb.getD i []).getD j 0)) ∈ q_fl := by decide +kernel
theorem q_fl7 : ∀ i, i < 6 → ∀ j, j < 6 → i ≠ j → Jvm.Cond.not (Jvm.Cond.eq (q_tm i) (q_tm j)) ∈ q_fl ∨ Jvm.Cond.not (Jvm.Cond.eq (q_tm j) (q_tm i)) ∈ q_fl := by decide +kernel
theorem q_fl8 : ∀ i, i < 6 → q_stl.getD i 0 < 2 ^ 31 := by decide +kernel
theorem q_tget {j : Nat} {q : String × Nat × String} (h : q_strs[j]? = some q) : q_strs.getD j ("", 0, "") = q := by
  rw [List.getD_eq_getElem?_getD, h]
  rfl
theorem q_start {s : State} {b L : Nat} {xs : Nat → Int32} (hL : L ≤ 3072) (hts : ∀ w ∈ lw_tbl, w.before #[Value.ref b] s = true) (hX : va_X b L xs s s.heap) (hgv : (Jvm.Cond.and given_1 narrow_1).before #[Value.ref b] s = true) :
    ∃ g : q_G, g.1 = s.heap.size ∧ g.2.1 1000 = b ∧ q_op g ∧ q_K g s ∧ q_NF g s ∧ q_RO g L (fun j => .int (xs j)) s s.heap := by
  have hs : ∀ c ∈ q_fl, c.before #[Value.ref b] s = true := flat_of_before _ hgv
  have htg : ∀ w ∈ lw_good, w.before #[Value.ref b] s = true := fun w hw => hts w (List.mem_filter.mp hw).1
  have hA : ∀ a : Nat, a < s.heap.size → ¬ (fun q : Nat => s.heap.size ≤ q) a := fun a h => Nat.not_le.mpr h
  have hst : ∀ q, q ∈ q_stat → (Jvm.Cond.laysStatic q.1 q.2.1 q.2.2.1).before #[Value.ref b] s = true ∧ (Jvm.Cond.initialized q.1).before #[Value.ref b] s = true := fun q hq => ⟨hts _ (q_stat_in q hq).1, hts _ (q_stat_in q hq).2⟩
  -- classes of objects
  have hcl : ∀ k : Nat, ∃ z : ClassId × (Nat → Nat), k < 10 → u_Kn s (q_clk k).1 (q_clk k).2.1 (q_clk k).2.2 z.1 z.2 := by
    intro k
    by_cases hk : k < 10
    · obtain ⟨cC, iS, h⟩ := u_known (C := (q_clk k).1) (T := (q_clk k).2.1) (N := (q_clk k).2.2) htg (q_lays_in k hk) (htg _ (q_inst_in k hk))
      exact ⟨(cC, iS), fun _ => h⟩
    · exact ⟨(0, fun _ => 0), fun h => absurd h hk⟩
  obtain ⟨cz, hcz⟩ := Classical.axiomOfChoice hcl
  -- classes of arrays
  have harr : ∀ k : Nat, ∃ cA : ClassId, 16 ≤ k → k ≤ 21 → ArrOfT s cA (q_aty k) ∧ va_RA s cA (q_aty k) := by
    have prim : ∀ t : ArrayType, q_ak t ≠ 99 → ∃ cA : ClassId, ArrOfT s cA (newarray.typeOf t) ∧ va_RA s cA (newarray.typeOf t) := by
      intro t ht
      obtain ⟨cA, kA, comp, h1, h2, h3⟩ := Cond.arrayClass_spec (htg _ (q_arr_in t ht))
      exact ⟨cA, fun n z => ⟨fun k h => (by cases h), kA, h2, comp, h3⟩, by cases t <;> exact h1⟩
    have refs : ∀ C : String, (Jvm.Cond.arrayOver (.object C)).before #[Value.ref b] s = true → ∃ cA : ClassId, ArrOfT s cA (.object C) ∧ va_RA s cA (.object C) := by
      intro C hC
      obtain ⟨comp, cA, kA, h1, h2, h3, h4, h5⟩ := Cond.arrayOver_spec hC
      exact ⟨cA, fun n z => ⟨fun k h => (by cases h), kA, h3, comp, h4⟩, kA, comp, h3, h4, h1, h5⟩
    intro k
    by_cases hk : 16 ≤ k ∧ k ≤ 21
    · rcases (show k = 16 ∨ k = 17 ∨ k = 18 ∨ k = 19 ∨ k = 20 ∨ k = 21 by omega) with rfl | rfl | rfl | rfl | rfl | rfl
      · obtain ⟨c, h⟩ := prim .int (by decide); exact ⟨c, fun _ _ => h⟩
      · obtain ⟨c, h⟩ := prim .long (by decide); exact ⟨c, fun _ _ => h⟩
      · obtain ⟨c, h⟩ := prim .byte (by decide); exact ⟨c, fun _ _ => h⟩
      · obtain ⟨c, h⟩ := prim .boolean (by decide); exact ⟨c, fun _ _ => h⟩
      · obtain ⟨c, h⟩ := refs _ (hts _ q_over_in.1); exact ⟨c, fun _ _ => h⟩
      · obtain ⟨c, h⟩ := refs _ (hts _ q_over_in.2); exact ⟨c, fun _ _ => h⟩
    · exact ⟨0, fun h1 h2 => absurd ⟨h1, h2⟩ hk⟩
  obtain ⟨ca, hca⟩ := Classical.axiomOfChoice harr
  -- tables
  obtain ⟨tL, eL, hTL⟩ := va_Tof (A := fun q : Nat => s.heap.size ≤ q) (N := 4) (f := fun j => .int (q_ro1 j)) (by decide) (hs _ q_fl1.1) (va_eqt (hs _ q_fl1.2.1)) (fun j hj => va_eqt (hs _ (q_fl1.2.2 j hj))) hA
  obtain ⟨tA, eA, hTA⟩ := va_Tof (A := fun q : Nat => s.heap.size ≤ q) (N := 7) (f := fun j => .int (q_ro2 j)) (by decide) (hs _ q_fl2.1) (va_eqt (hs _ q_fl2.2.1)) (fun j hj => va_eqt (hs _ (q_fl2.2.2 j hj))) hA
  obtain ⟨tB, eB, hTB⟩ := va_Tof (A := fun q : Nat => s.heap.size ≤ q) (N := 21) (f := fun j => .int (q_ro3 j)) (by decide) (hs _ q_fl3.1) (va_eqt (hs _ q_fl3.2.1)) (fun j hj => va_eqt (hs _ (q_fl3.2.2 j hj))) hA
  -- strings
  obtain ⟨adK, adV, hS, hSe⟩ := vk_Sof (A := fun q : Nat => s.heap.size ≤ q) (N := 6) (tm := q_tm) (len := q_stl) (byt := q_stb) q_fl8 (fun i hi => hs _ (q_fl5 i hi).1) (fun i hi => hs _ (q_fl5 i hi).2.1) (fun i hi => hs _ (q_fl5 i hi).2.2.1) (fun i hi => hs _ (q_fl5 i hi).2.2.2) (fun i hi j hj => hs _ (q_fl6 i hi j hj)) (fun i j hi hj hij => (q_fl7 i hi j hj hij).imp (fun h => hs _ h) (fun h => hs _ h)) hA
  -- the opaque constant
  have hop : ∃ v : Value, (v = .null ∨ ∃ t, v = .ref t) ∧ va_Z "jdk/internal/util/Preconditions" "SIOOBE_FORMATTER" "Ljava/util/function/BiFunction;" v (fun q : Nat => s.heap.size ≤ q) s s.heap := by
    have h0 := hst ("jdk/internal/util/Preconditions", "SIOOBE_FORMATTER", "Ljava/util/function/BiFunction;", .ref 1004) (by decide +kernel)
    rcases va_Zqof h0.1 h0.2 (hs _ q_fl4.2) hA with h | ⟨t, h⟩
    · exact ⟨_, Or.inl rfl, h⟩
    · exact ⟨_, Or.inr ⟨t, rfl⟩, h⟩
  obtain ⟨opq, hopq, hZop⟩ := hop
  refine ⟨(s.heap.size, fun a => if a = 1000 then b else if a = 1001 then tL else if a = 1002 then tA else if a = 1003 then tB else if a < 1020 then adK (a - 1010) else adV (a - 1020), opq, fun k => if k < 10 then (cz k).1 else ca k, fun k => (cz k).2), rfl, rfl, hopq, ?_, ?_, ?_⟩
  · refine ⟨fun k q hq => ?_, fun k q hq => ?_⟩
    · have hk : k < 10 := (List.getElem?_eq_some_iff.mp hq).1
      have hq' : q = q_clk k := Option.some.inj (hq.symm.trans (q_clk_get hk))
      subst hq'
      have := hcz k hk
      show u_Kn s _ _ _ (if k < 10 then (cz k).1 else ca k) (cz k).2
      rw [if_pos hk]
      exact this
    · have hk : k < 6 := (List.getElem?_eq_some_iff.mp hq).1
      have h7 := q_tys_get (g := (s.heap.size, fun a => if a = 1000 then b else if a = 1001 then tL else if a = 1002 then tA else if a = 1003 then tB else if a < 1020 then adK (a - 1010) else adV (a - 1020), opq, fun k => if k < 10 then (cz k).1 else ca k, fun k => (cz k).2)) (k := k + 16) (by omega) (by omega)
      rw [Nat.add_sub_cancel] at h7
      cases hq.symm.trans h7
      show ArrOfT s (if k + 16 < 10 then (cz (k + 16)).1 else ca (k + 16)) _ ∧ va_RA s (if k + 16 < 10 then (cz (k + 16)).1 else ca (k + 16)) _
      rw [if_neg (by omega)]
      exact hca (k + 16) (by omega) (by omega)
  · refine ⟨fun w hw => va_Nw.of (q_nest_in w hw).2 (hts w (q_nest_in w hw).1), fun j q hq => ?_, va_AO.of (hts _ q_over_in.1), va_AO.of (hts _ q_over_in.2)⟩
    have hj : j < 6 := (List.getElem?_eq_some_iff.mp hq).1
    have h8 := hts _ (q_strs_in j hj)
    have h9 := hSe j hj
    unfold q_tm at h9
    rw [q_tget hq] at h8 h9
    show vk_R q.1 q.2.1 q.2.2 (if 1010 + j = 1000 then b else if 1010 + j = 1001 then tL else if 1010 + j = 1002 then tA else if 1010 + j = 1003 then tB else if 1010 + j < 1020 then adK (1010 + j - 1010) else adV (1010 + j - 1020)) s
    rw [if_neg (by omega), if_neg (by omega), if_neg (by omega), if_neg (by omega), if_pos (by omega), Nat.add_sub_cancel_left]
    exact vk_R.of h8 h9
  · refine ⟨fun a h1 h2 => ?_, fun q hq => ?_, ?_⟩
    · rcases (show a = 1000 ∨ a = 1001 ∨ a = 1002 ∨ a = 1003 by omega) with rfl | rfl | rfl | rfl
      · obtain ⟨scr, x1, x2, x3, x4, x5⟩ := hX
        exact ⟨scr, x1, x2, x3, Nat.le_of_eq x4.symm, by rw [x4]; rfl, x5, hA b (Array.getElem?_eq_some_iff.mp x1).1⟩
      · exact hTL
      · exact hTA
      · exact hTB
    · have h0 := hst q hq
      simp only [q_stat, List.mem_cons, List.not_mem_nil, or_false] at hq
      rcases hq with rfl | rfl | rfl | rfl | rfl
      · exact va_Zref h0.1 h0.2 eL hA
      · exact va_Zref h0.1 h0.2 eA hA
      · exact va_Zref h0.1 h0.2 eB hA
      · exact hZop
      · exact va_Zof h0.1 h0.2 (va_eqi (hs _ q_fl4.1)) hA
    · refine ⟨fun i hi => ?_, fun i j hi hj he => ?_⟩
      · have e1 : (if 1010 + i = 1000 then b else if 1010 + i = 1001 then tL else if 1010 + i = 1002 then tA else if 1010 + i = 1003 then tB else if 1010 + i < 1020 then adK (1010 + i - 1010) else adV (1010 + i - 1020)) = adK i := by
          rw [if_neg (by omega), if_neg (by omega), if_neg (by omega), if_neg (by omega), if_pos (by omega), Nat.add_sub_cancel_left]
        have e2 : (if 1020 + i = 1000 then b else if 1020 + i = 1001 then tL else if 1020 + i = 1002 then tA else if 1020 + i = 1003 then tB else if 1020 + i < 1020 then adK (1020 + i - 1010) else adV (1020 + i - 1020)) = adV i := by
          rw [if_neg (by omega), if_neg (by omega), if_neg (by omega), if_neg (by omega), if_neg (by omega), Nat.add_sub_cancel_left]
        have h5 := hS.1 i hi
        rw [← e1, ← e2] at h5
        exact h5
      · have e1 : ∀ i, i < 6 → (if 1010 + i = 1000 then b else if 1010 + i = 1001 then tL else if 1010 + i = 1002 then tA else if 1010 + i = 1003 then tB else if 1010 + i < 1020 then adK (1010 + i - 1010) else adV (1010 + i - 1020)) = adK i := by
          intro i hi
          rw [if_neg (by omega), if_neg (by omega), if_neg (by omega), if_neg (by omega), if_pos (by omega), Nat.add_sub_cancel_left]
        exact hS.2 i j hi hj ((e1 i hi).symm.trans ((show _ = _ from he).trans (e1 j hj)))
