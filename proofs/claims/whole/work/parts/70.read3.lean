/-! the class reads E, T, F -/
theorem nz_u {u : Nat} (h : 129 ≤ u) : nz (u : Int) = .ref u := by
  unfold nz
  rw [if_neg (by omega), Int.toNat_natCast]
def rdP (N L u n : Nat) (G : q_Gi) (f : Nat → Bool × Nat × List Int) (y : Nat) (w : Int) (dl : Nat) : Prop := ∀ d, dl ≤ d → ∀ (B : q_Bv) (l : List Int) (p : Nat), p ≤ n → stp B u l → l.length ≤ p → ∃ B', Sp d y [.ref 56, vI w] (hp N L B (ug G 56 2 p)) (some (vI (bI ((f p).1 = true)))) (hp N L B' (ug G 56 2 ((f p).2.1 : Nat))) ∧ stp B' u (l ++ (f p).2.2) ∧ fru B B' u
theorem lp27 {u n N L dl : Nat} {w : Int} {G : q_Gi} {f : Nat → Bool × Nat × List Int} (h : rdr G n) (hu : uar u N) (hG : G 56 3 = (u : Int)) (hf : gdS n f) (hR : rdP N L u n G f 28 w dl) (hdl : 3 ≤ dl) : ∀ (k i d : Nat) (r : Bool × Nat × List Int) (l : List Int) (B0 B : q_Bv) (p0 : Nat), i + k = 100 → dl ≤ d → l.length ≤ p0 → p0 + r.2.2.length ≤ r.2.1 → r.2.1 ≤ n → stp B u (l ++ r.2.2) → fru B0 B u → WP d 27 8 [.ref 56, vI w, vI (bI (r.1 = true)), vI i] [] (hp N L B (ug G 56 2 (r.2.1 : Nat))) (fun r1 X1 => ∃ B', r1 = some (vI (bI ((chnS (nxG G n) f 38 (-1) k r).1 = true))) ∧ X1 = hp N L B' (ug G 56 2 ((chnS (nxG G n) f 38 (-1) k r).2.1 : Nat)) ∧ stp B' u (l ++ (chnS (nxG G n) f 38 (-1) k r).2.2) ∧ fru B0 B' u) := by
  have hn := h.2.1
  obtain ⟨u1, u2, u3, u4, u5, u6, u7⟩ := id hu
  intro k
  induction k with
  | zero =>
    intro i d r l B0 B p0 hi hd hl hr1 hr2 hB hfr
    have h1 : ¬ (i : Int) < 100 := by omega
    rcases r with ⟨ok, p, ts⟩
    cases ok
    all_goals
      simp (disch := omega) only [s27_8, s27_9, s27_11, s27_14, s27_15, s27_15b, s27_18, s27_19, s27_24, s27_24b, s27_27, s27_28, s27_32, s27_33, m27_34, s27_37, s27_41, s27_44, s27_47, s27_48, s27_48b, Int.toNat_natCast, Int.toNat_natCast, Nat.reduceAdd, Nat.reduceMul, Int.reduceToNat, Int.reduceAdd, Int.reduceLT, Int.reduceLE, Int.reduceEq, Int.reduceNeg, Int.reduceMul, Int.reduceSub, Nat.reduceSub, reduceIte, ite_true, ite_false, and_true, true_and, and_self, h1, bI, Bool.false_eq_true]
      exact ⟨B, rfl, rfl, hB, hfr⟩
  | succ k ih =>
    intro i d r l B0 B p0 hi hd hl hr1 hr2 hB hfr
    have h1 : (i : Int) < 100 := by omega
    rcases r with ⟨ok, p, ts⟩
    change p0 + ts.length ≤ p at hr1
    change p ≤ n at hr2
    change stp B u (l ++ ts) at hB
    cases ok with
    | false =>
      have e : chnS (nxG G n) f 38 (-1) (k + 1) (false, p, ts) = (false, p, ts) := by
        unfold chnS
        rw [if_neg (fun hh => Bool.false_ne_true hh.1)]
      rw [e]
      simp (disch := omega) only [s27_8, s27_9, s27_11, s27_14, s27_15, s27_15b, s27_18, s27_19, s27_24, s27_24b, s27_27, s27_28, s27_32, s27_33, m27_34, s27_37, s27_41, s27_44, s27_47, s27_48, s27_48b, Int.toNat_natCast, Int.toNat_natCast, Nat.reduceAdd, Nat.reduceMul, Int.reduceToNat, Int.reduceAdd, Int.reduceLT, Int.reduceLE, Int.reduceEq, Int.reduceNeg, Int.reduceMul, Int.reduceSub, Nat.reduceSub, reduceIte, ite_true, ite_false, and_true, true_and, and_self, h1, bI, Bool.false_eq_true]
      exact ⟨B, rfl, hB, hfr⟩
    | true =>
      by_cases c : nxG G n p = 38
      · have lt := txt_lt (txt_of h) (by decide) c
        have h30 := sp30_t (d := d) (N := N) (L := L) (B := B) (by omega) h (by decide) c
        have hfp := hf (p + 1) (by omega)
        obtain ⟨B1, s1, t1, f1⟩ := hR d hd B (l ++ ts) (p + 1) (by omega) hB (by rw [List.length_append]; omega)
        obtain ⟨B2, s2, t2, f2⟩ := sp47 (d := d) (L := L) (x := -1) (G := ug G 56 2 ((f (p + 1)).2.1 : Nat)) (by omega) hu t1 (by simp only [List.length_append]; omega)
        have e : chnS (nxG G n) f 38 (-1) (k + 1) (true, p, ts) = chnS (nxG G n) f 38 (-1) k ((f (p + 1)).1, (f (p + 1)).2.1, ts ++ ((f (p + 1)).2.2 ++ [-1])) := by
          rw [show chnS (nxG G n) f 38 (-1) (k + 1) (true, p, ts) = if true = true ∧ nxG G n p = 38 then chnS (nxG G n) f 38 (-1) k ((f (p + 1)).1, (f (p + 1)).2.1, ts ++ ((f (p + 1)).2.2 ++ [-1])) else (true, p, ts) from rfl, if_pos ⟨rfl, c⟩]
        have := ih (i + 1) d ((f (p + 1)).1, (f (p + 1)).2.1, ts ++ ((f (p + 1)).2.2 ++ [-1])) l B0 B2 p0 (by omega) hd hl (by simp only [List.length_append, List.length_cons, List.length_nil]; omega) hfp.2 (by
          rw [List.append_assoc, List.append_assoc] at t2
          exact t2) (fru_t (fru_t hfr f1) f2)
        rw [e]
        rw [s27_8]
        simp (disch := omega) only [s27_9, s27_11, s27_14, s27_15, s27_15b, s27_18, s27_19, s27_24, s27_24b, s27_27, s27_28, s27_32, s27_33, m27_34, s27_37, s27_41, s27_44, Int.toNat_natCast, Int.toNat_natCast, Nat.reduceAdd, Nat.reduceMul, Int.reduceToNat, Int.reduceAdd, Int.reduceLT, Int.reduceLE, Int.reduceEq, Int.reduceNeg, Int.reduceMul, Int.reduceSub, Nat.reduceSub, reduceIte, ite_true, ite_false, and_true, true_and, and_self, h1, bI_t, m27_21 h30, m27_29 s1, ug_k, hG, nz_u, m27_38 u1 (by omega) s2]
        exact this
      · have h30 := sp30_f (d := d) (N := N) (L := L) (B := B) (by omega) h (by decide) hr2 c
        have e : chnS (nxG G n) f 38 (-1) (k + 1) (true, p, ts) = (true, p, ts) := by
          unfold chnS
          rw [if_neg (fun hh => c hh.2)]
        rw [e]
        simp (disch := omega) only [s27_8, s27_9, s27_11, s27_14, s27_15, s27_15b, s27_18, s27_19, s27_24, s27_24b, s27_27, s27_28, s27_32, s27_33, m27_34, s27_37, s27_41, s27_44, s27_47, s27_48, s27_48b, Int.toNat_natCast, Int.toNat_natCast, Nat.reduceAdd, Nat.reduceMul, Int.reduceToNat, Int.reduceAdd, Int.reduceLT, Int.reduceLE, Int.reduceEq, Int.reduceNeg, Int.reduceMul, Int.reduceSub, Nat.reduceSub, reduceIte, ite_true, ite_false, and_true, true_and, and_self, h1, bI, m27_21 h30]
        exact ⟨B, rfl, hB, hfr⟩
theorem lp26 {u n N L dl : Nat} {w : Int} {G : q_Gi} {f : Nat → Bool × Nat × List Int} (h : rdr G n) (hu : uar u N) (hG : G 56 3 = (u : Int)) (hf : gdS n f) (hR : rdP N L u n G f 27 w dl) (hdl : 3 ≤ dl) : ∀ (k i d : Nat) (r : Bool × Nat × List Int) (l : List Int) (B0 B : q_Bv) (p0 : Nat), i + k = 100 → dl ≤ d → l.length ≤ p0 → p0 + r.2.2.length ≤ r.2.1 → r.2.1 ≤ n → stp B u (l ++ r.2.2) → fru B0 B u → WP d 26 8 [.ref 56, vI w, vI (bI (r.1 = true)), vI i] [] (hp N L B (ug G 56 2 (r.2.1 : Nat))) (fun r1 X1 => ∃ B', r1 = some (vI (bI ((chnS (nxG G n) f 124 (-2) k r).1 = true))) ∧ X1 = hp N L B' (ug G 56 2 ((chnS (nxG G n) f 124 (-2) k r).2.1 : Nat)) ∧ stp B' u (l ++ (chnS (nxG G n) f 124 (-2) k r).2.2) ∧ fru B0 B' u) := by
  have hn := h.2.1
  obtain ⟨u1, u2, u3, u4, u5, u6, u7⟩ := id hu
  intro k
  induction k with
  | zero =>
    intro i d r l B0 B p0 hi hd hl hr1 hr2 hB hfr
    have h1 : ¬ (i : Int) < 100 := by omega
    rcases r with ⟨ok, p, ts⟩
    cases ok
    all_goals
      simp (disch := omega) only [s26_8, s26_9, s26_11, s26_14, s26_15, s26_15b, s26_18, s26_19, s26_24, s26_24b, s26_27, s26_28, s26_32, s26_33, m26_34, s26_37, s26_42, s26_45, s26_48, s26_49, s26_49b, Int.toNat_natCast, Int.toNat_natCast, Nat.reduceAdd, Nat.reduceMul, Int.reduceToNat, Int.reduceAdd, Int.reduceLT, Int.reduceLE, Int.reduceEq, Int.reduceNeg, Int.reduceMul, Int.reduceSub, Nat.reduceSub, reduceIte, ite_true, ite_false, and_true, true_and, and_self, h1, bI, Bool.false_eq_true]
      exact ⟨B, rfl, rfl, hB, hfr⟩
  | succ k ih =>
    intro i d r l B0 B p0 hi hd hl hr1 hr2 hB hfr
    have h1 : (i : Int) < 100 := by omega
    rcases r with ⟨ok, p, ts⟩
    change p0 + ts.length ≤ p at hr1
    change p ≤ n at hr2
    change stp B u (l ++ ts) at hB
    cases ok with
    | false =>
      have e : chnS (nxG G n) f 124 (-2) (k + 1) (false, p, ts) = (false, p, ts) := by
        unfold chnS
        rw [if_neg (fun hh => Bool.false_ne_true hh.1)]
      rw [e]
      simp (disch := omega) only [s26_8, s26_9, s26_11, s26_14, s26_15, s26_15b, s26_18, s26_19, s26_24, s26_24b, s26_27, s26_28, s26_32, s26_33, m26_34, s26_37, s26_42, s26_45, s26_48, s26_49, s26_49b, Int.toNat_natCast, Int.toNat_natCast, Nat.reduceAdd, Nat.reduceMul, Int.reduceToNat, Int.reduceAdd, Int.reduceLT, Int.reduceLE, Int.reduceEq, Int.reduceNeg, Int.reduceMul, Int.reduceSub, Nat.reduceSub, reduceIte, ite_true, ite_false, and_true, true_and, and_self, h1, bI, Bool.false_eq_true]
      exact ⟨B, rfl, hB, hfr⟩
    | true =>
      by_cases c : nxG G n p = 124
      · have lt := txt_lt (txt_of h) (by decide) c
        have h30 := sp30_t (d := d) (N := N) (L := L) (B := B) (by omega) h (by decide) c
        have hfp := hf (p + 1) (by omega)
        obtain ⟨B1, s1, t1, f1⟩ := hR d hd B (l ++ ts) (p + 1) (by omega) hB (by rw [List.length_append]; omega)
        obtain ⟨B2, s2, t2, f2⟩ := sp47 (d := d) (L := L) (x := -2) (G := ug G 56 2 ((f (p + 1)).2.1 : Nat)) (by omega) hu t1 (by simp only [List.length_append]; omega)
        have e : chnS (nxG G n) f 124 (-2) (k + 1) (true, p, ts) = chnS (nxG G n) f 124 (-2) k ((f (p + 1)).1, (f (p + 1)).2.1, ts ++ ((f (p + 1)).2.2 ++ [-2])) := by
          rw [show chnS (nxG G n) f 124 (-2) (k + 1) (true, p, ts) = if true = true ∧ nxG G n p = 124 then chnS (nxG G n) f 124 (-2) k ((f (p + 1)).1, (f (p + 1)).2.1, ts ++ ((f (p + 1)).2.2 ++ [-2])) else (true, p, ts) from rfl, if_pos ⟨rfl, c⟩]
        have := ih (i + 1) d ((f (p + 1)).1, (f (p + 1)).2.1, ts ++ ((f (p + 1)).2.2 ++ [-2])) l B0 B2 p0 (by omega) hd hl (by simp only [List.length_append, List.length_cons, List.length_nil]; omega) hfp.2 (by
          rw [List.append_assoc, List.append_assoc] at t2
          exact t2) (fru_t (fru_t hfr f1) f2)
        rw [e]
        rw [s26_8]
        simp (disch := omega) only [s26_9, s26_11, s26_14, s26_15, s26_15b, s26_18, s26_19, s26_24, s26_24b, s26_27, s26_28, s26_32, s26_33, m26_34, s26_37, s26_42, s26_45, Int.toNat_natCast, Int.toNat_natCast, Nat.reduceAdd, Nat.reduceMul, Int.reduceToNat, Int.reduceAdd, Int.reduceLT, Int.reduceLE, Int.reduceEq, Int.reduceNeg, Int.reduceMul, Int.reduceSub, Nat.reduceSub, reduceIte, ite_true, ite_false, and_true, true_and, and_self, h1, bI_t, m26_21 h30, m26_29 s1, ug_k, hG, nz_u, m26_39 u1 (by omega) s2]
        exact this
      · have h30 := sp30_f (d := d) (N := N) (L := L) (B := B) (by omega) h (by decide) hr2 c
        have e : chnS (nxG G n) f 124 (-2) (k + 1) (true, p, ts) = (true, p, ts) := by
          unfold chnS
          rw [if_neg (fun hh => c hh.2)]
        rw [e]
        simp (disch := omega) only [s26_8, s26_9, s26_11, s26_14, s26_15, s26_15b, s26_18, s26_19, s26_24, s26_24b, s26_27, s26_28, s26_32, s26_33, m26_34, s26_37, s26_42, s26_45, s26_48, s26_49, s26_49b, Int.toNat_natCast, Int.toNat_natCast, Nat.reduceAdd, Nat.reduceMul, Int.reduceToNat, Int.reduceAdd, Int.reduceLT, Int.reduceLE, Int.reduceEq, Int.reduceNeg, Int.reduceMul, Int.reduceSub, Nat.reduceSub, reduceIte, ite_true, ite_false, and_true, true_and, and_self, h1, bI, m26_21 h30]
        exact ⟨B, rfl, hB, hfr⟩
theorem rd27 {u n N L dl : Nat} {w : Int} {G : q_Gi} {f : Nat → Bool × Nat × List Int} (h : rdr G n) (hu : uar u N) (hG : G 56 3 = (u : Int)) (hf : gdS n f) (hR : rdP N L u n G f 28 w dl) (hdl : 3 ≤ dl) : rdP N L u n G (botS (nxG G n) f) 27 w (dl + 1) := by
  intro d hd B l p hpn hB hl
  obtain ⟨B1, s1, t1, f1⟩ := hR (d - 1) (by omega) B l p hpn hB hl
  have hfp := hf p hpn
  obtain ⟨r1, X1, hS, B', hr, hX, q⟩ := E27 (d := d) (X := hp N L B (ug G 56 2 (p : Nat))) (z1 := w) (Q := fun r1 X1 => ∃ B', r1 = some (vI (bI ((botS (nxG G n) f p).1 = true))) ∧ X1 = hp N L B' (ug G 56 2 ((botS (nxG G n) f p).2.1 : Nat)) ∧ stp B' u (l ++ (botS (nxG G n) f p).2.2) ∧ fru B B' u) (by omega) (by
    simp (disch := omega) only [s27_0, s27_1, s27_5, s27_6, s27_7, Int.toNat_natCast, Int.toNat_natCast, Nat.reduceAdd, Nat.reduceMul, Int.reduceToNat, Int.reduceAdd, Int.reduceLT, Int.reduceLE, Int.reduceEq, Int.reduceNeg, Int.reduceMul, Int.reduceSub, Nat.reduceSub, reduceIte, ite_true, ite_false, and_true, true_and, and_self, m27_2 s1]
    exact lp27 h hu hG hf hR hdl 100 0 (d - 1) (f p) l B B1 p rfl (by omega) hl (by omega) hfp.2 t1 f1)
  exact ⟨B', by rw [hr, hX] at hS; exact hS, q⟩
theorem rd26 {u n N L dl : Nat} {w : Int} {G : q_Gi} {f0 : Nat → Bool × Nat × List Int} (h : rdr G n) (hu : uar u N) (hG : G 56 3 = (u : Int)) (hf : gdS n (botS (nxG G n) f0)) (hR : rdP N L u n G (botS (nxG G n) f0) 27 w dl) (hdl : 3 ≤ dl) : rdP N L u n G (eitS (nxG G n) f0) 26 w (dl + 1) := by
  intro d hd B l p hpn hB hl
  obtain ⟨B1, s1, t1, f1⟩ := hR (d - 1) (by omega) B l p hpn hB hl
  have hfp := hf p hpn
  obtain ⟨r1, X1, hS, B', hr, hX, q⟩ := E26 (d := d) (X := hp N L B (ug G 56 2 (p : Nat))) (z1 := w) (Q := fun r1 X1 => ∃ B', r1 = some (vI (bI ((eitS (nxG G n) f0 p).1 = true))) ∧ X1 = hp N L B' (ug G 56 2 ((eitS (nxG G n) f0 p).2.1 : Nat)) ∧ stp B' u (l ++ (eitS (nxG G n) f0 p).2.2) ∧ fru B B' u) (by omega) (by
    simp (disch := omega) only [s26_0, s26_1, s26_5, s26_6, s26_7, Int.toNat_natCast, Int.toNat_natCast, Nat.reduceAdd, Nat.reduceMul, Int.reduceToNat, Int.reduceAdd, Int.reduceLT, Int.reduceLE, Int.reduceEq, Int.reduceNeg, Int.reduceMul, Int.reduceSub, Nat.reduceSub, reduceIte, ite_true, ite_false, and_true, true_and, and_self, m26_2 s1]
    exact lp26 h hu hG hf hR hdl 100 0 (d - 1) (botS (nxG G n) f0 p) l B B1 p rfl (by omega) hl (by omega) hfp.2 t1 f1)
  exact ⟨B', by rw [hr, hX] at hS; exact hS, q⟩
/-- a TEST -/
theorem wp28t {u n N L : Nat} {w x2 : Int} {x3 : Value} {G : q_Gi} (h : rdr G n) (hu : uar u N) (hG : G 56 3 = (u : Int)) (d : Nat) (hd : 8 ≤ d) (B : q_Bv) (l : List Int) (p : Nat) (hpn : p ≤ n) (hB : stp B u l) (hl : l.length ≤ p) (hx : nL x3 = true) : WP d 28 81 [.ref 56, vI w, vI x2, x3, .null, .null] [] (hp N L B (ug G 56 2 (p : Nat))) (fun r1 X1 => ∃ B', r1 = some (vI (bI ((tstS (nxG G n) p).1 = true))) ∧ X1 = hp N L B' (ug G 56 2 ((tstS (nxG G n) p).2.1 : Nat)) ∧ stp B' u (l ++ (tstS (nxG G n) p).2.2) ∧ fru B B' u) := by
  have hn := h.2.1
  have ht := txt_of h
  obtain ⟨u1, u2, u3, u4, u5, u6, u7⟩ := id hu
  have h4 := sp31_4 (d := d) (N := N) (L := L) (B := B) (by omega) h hpn
  have r4 := liS_r (c := nxG G n p)
  unfold tstS
  by_cases c1 : liS (nxG G n p) < 0
  · rw [if_pos c1] at h4 ⊢
    simp (disch := first | omega | assumption) only [s28_81, s28_82, s28_87, s28_88, s28_89, s28_92, s28_93, s28_96, s28_97, s28_102, s28_104, s28_106, s28_109, s28_110, s28_113, s28_117, s28_119, s28_121, s28_124, s28_125, s28_125b, s28_126, m28_127, s28_130, s28_131, s28_133, s28_138, s28_139, s28_139b, Int.toNat_natCast, Int.toNat_natCast, Nat.reduceAdd, Nat.reduceMul, Int.reduceToNat, Int.reduceAdd, Int.reduceLT, Int.reduceLE, Int.reduceEq, Int.reduceNeg, Int.reduceMul, Int.reduceSub, Nat.reduceSub, reduceIte, ite_true, ite_false, and_true, true_and, and_self, m28_84 h4, c1, bI, Bool.false_eq_true]
    exact ⟨B, rfl, by rw [List.append_nil]; exact hB, fru_r B u⟩
  have l1 : p < n := txt_lt ht (c := nxG G n p) (by have := liS_0 (c := nxG G n p) (by omega); omega) rfl
  rw [if_neg c1] at h4 ⊢
  have h5 := sp31_5 (d := d) (N := N) (L := L) (B := B) (p := p + 1) (by omega) h (by omega)
  have r5 := siS_r (c := nxG G n (p + 1))
  by_cases c2 : siS (nxG G n (p + 1)) < 0
  · rw [if_pos c2] at h5 ⊢
    simp (disch := first | omega | assumption) only [s28_81, s28_82, s28_87, s28_88, s28_89, s28_92, s28_93, s28_96, s28_97, s28_102, s28_104, s28_106, s28_109, s28_110, s28_113, s28_117, s28_119, s28_121, s28_124, s28_125, s28_125b, s28_126, m28_127, s28_130, s28_131, s28_133, s28_138, s28_139, s28_139b, Int.toNat_natCast, Int.toNat_natCast, Nat.reduceAdd, Nat.reduceMul, Int.reduceToNat, Int.reduceAdd, Int.reduceLT, Int.reduceLE, Int.reduceEq, Int.reduceNeg, Int.reduceMul, Int.reduceSub, Nat.reduceSub, reduceIte, ite_true, ite_false, and_true, true_and, and_self, m28_84 h4, c1, m28_99 h5, c2, bI, Bool.false_eq_true]
    exact ⟨B, rfl, by rw [List.append_nil]; exact hB, fru_r B u⟩
  have l2 : p + 1 < n := txt_lt ht (c := nxG G n (p + 1)) (by have := siS_0 (c := nxG G n (p + 1)) (by omega); omega) rfl
  rw [if_neg c2] at h5 ⊢
  have h33 := sp33 (d := d) (N := N) (L := L) (B := B) (p := p + 2) (by omega) h (by omega)
  have gn := num_g (p := p + 2) ht (by omega)
  by_cases c3 : (numS (nxG G n) (p + 2)).1 < 0
  · rw [if_pos c3]
    simp (disch := first | omega | assumption) only [s28_81, s28_82, s28_87, s28_88, s28_89, s28_92, s28_93, s28_96, s28_97, s28_102, s28_104, s28_106, s28_109, s28_110, s28_113, s28_117, s28_119, s28_121, s28_124, s28_125, s28_125b, s28_126, m28_127, s28_130, s28_131, s28_133, s28_138, s28_139, s28_139b, Int.toNat_natCast, Int.toNat_natCast, Nat.reduceAdd, Nat.reduceMul, Int.reduceToNat, Int.reduceAdd, Int.reduceLT, Int.reduceLE, Int.reduceEq, Int.reduceNeg, Int.reduceMul, Int.reduceSub, Nat.reduceSub, reduceIte, ite_true, ite_false, and_true, true_and, and_self, m28_84 h4, c1, m28_99 h5, c2, m28_114 h33, c3, bI, Bool.false_eq_true]
    exact ⟨B, rfl, by rw [List.append_nil]; exact hB, fru_r B u⟩
  · rw [if_neg c3]
    obtain ⟨B1, s1, t1, f1⟩ := sp48 (d := d) (L := L) (x := liS (nxG G n p)) (y := siS (nxG G n (p + 1))) (z := (numS (nxG G n) (p + 2)).1) (G := ug G 56 2 ((numS (nxG G n) (p + 2)).2 : Nat)) (by omega) hu hB (by omega)
    simp (disch := first | omega | assumption) only [s28_81, s28_82, s28_87, s28_88, s28_89, s28_92, s28_93, s28_96, s28_97, s28_102, s28_104, s28_106, s28_109, s28_110, s28_113, s28_117, s28_119, s28_121, s28_124, s28_125, s28_125b, s28_126, m28_127, s28_130, s28_131, s28_133, s28_138, s28_139, s28_139b, Int.toNat_natCast, Int.toNat_natCast, Nat.reduceAdd, Nat.reduceMul, Int.reduceToNat, Int.reduceAdd, Int.reduceLT, Int.reduceLE, Int.reduceEq, Int.reduceNeg, Int.reduceMul, Int.reduceSub, Nat.reduceSub, reduceIte, ite_true, ite_false, and_true, true_and, and_self, m28_84 h4, c1, m28_99 h5, c2, m28_114 h33, c3, bI, ug_k, hG, nz_u, m28_135 u1 (by omega) s1]
    exact ⟨B1, rfl, t1, f1⟩
theorem rd28 {u n N L : Nat} {G : q_Gi} (h : rdr G n) (hu : uar u N) (hG : G 56 3 = (u : Int)) : ∀ (m w : Nat), w + m = 4 → rdP N L u n G (oneS (nxG G n) m) 28 (w : Int) (9 + 3 * m) := by
  have hn := h.2.1
  have ht := txt_of h
  obtain ⟨u1, u2, u3, u4, u5, u6, u7⟩ := id hu
  intro m
  induction m with
  | zero =>
    intro w hw d hd B l p hpn hB hl
    obtain rfl : w = 4 := by omega
    obtain ⟨r1, X1, hS, B', hr, hX, q⟩ := E28 (d := d) (X := hp N L B (ug G 56 2 (p : Nat))) (z1 := 4) (Q := fun r1 X1 => ∃ B', r1 = some (vI (bI ((tstS (nxG G n) p).1 = true))) ∧ X1 = hp N L B' (ug G 56 2 ((tstS (nxG G n) p).2.1 : Nat)) ∧ stp B' u (l ++ (tstS (nxG G n) p).2.2) ∧ fru B B' u) (by omega) (by
      simp (disch := omega) only [s28_0, s28_1, s28_2, s28_5, s28_6, s28_9, s28_10, s28_11, s28_12, s28_12b, s28_15, s28_16, s28_21, s28_21b, s28_24, s28_25, s28_26, s28_27, s28_31, s28_32, m28_33, s28_36, s28_41, s28_42, s28_42b, s28_43, s28_44, s28_44b, Int.toNat_natCast, Int.toNat_natCast, Nat.reduceAdd, Nat.reduceMul, Int.reduceToNat, Int.reduceAdd, Int.reduceLT, Int.reduceLE, Int.reduceEq, Int.reduceNeg, Int.reduceMul, Int.reduceSub, Nat.reduceSub, reduceIte, ite_true, ite_false, and_true, true_and, and_self]
      exact wp28t h hu hG (d - 1) (by omega) B l p hpn hB hl rfl)
    exact ⟨B', by rw [hr, hX] at hS; exact hS, q⟩
  | succ m ih =>
    intro w hw d hd B l p hpn hB hl
    have ihw := ih (w + 1) (by omega)
    have hlt : (w : Int) < 4 := by omega
    have ew : (w : Int) + 1 = ((w + 1 : Nat) : Int) := rfl
    obtain ⟨r1, X1, hS, B', hr, hX, q⟩ := E28 (d := d) (X := hp N L B (ug G 56 2 (p : Nat))) (z1 := (w : Int)) (Q := fun r1 X1 => ∃ B', r1 = some (vI (bI ((oneS (nxG G n) (m + 1) p).1 = true))) ∧ X1 = hp N L B' (ug G 56 2 ((oneS (nxG G n) (m + 1) p).2.1 : Nat)) ∧ stp B' u (l ++ (oneS (nxG G n) (m + 1) p).2.2) ∧ fru B B' u) (by omega) (by
      unfold oneS
      by_cases c1 : nxG G n p = 33
      · rw [if_pos c1]
        have l1 := txt_lt ht (by decide) c1
        have h30 := sp30_t (d := d - 1) (N := N) (L := L) (B := B) (by omega) h (by decide) c1
        have hg := one_g ht m (p + 1) (by omega)
        obtain ⟨B1, s1, t1, f1⟩ := ihw (d - 1) (by omega) B l (p + 1) (by omega) hB (by omega)
        obtain ⟨B2, s2, t2, f2⟩ := sp47 (d := d - 1) (L := L) (x := -3) (G := ug G 56 2 ((oneS (nxG G n) m (p + 1)).2.1 : Nat)) (by omega) hu t1 (by rw [List.length_append]; omega)
        rw [List.append_assoc] at t2
        cases hok : (oneS (nxG G n) m (p + 1)).1 with
        | false =>
          rw [hok, bI_f (by decide)] at s1
          simp (disch := omega) only [s28_0, s28_1, s28_2, s28_5, s28_6, s28_9, s28_10, s28_11, s28_12, s28_12b, s28_15, s28_16, s28_21, s28_21b, s28_24, s28_25, s28_26, s28_27, s28_31, s28_32, m28_33, s28_36, s28_41, s28_42, s28_42b, Int.toNat_natCast, Int.toNat_natCast, Nat.reduceAdd, Nat.reduceMul, Int.reduceToNat, Int.reduceAdd, Int.reduceLT, Int.reduceLE, Int.reduceEq, Int.reduceNeg, Int.reduceMul, Int.reduceSub, Nat.reduceSub, reduceIte, ite_true, ite_false, and_true, true_and, and_self, hlt, m28_18 h30, ew, m28_28 s1, ug_k, hG, nz_u, m28_38 u1 (by omega) s2, bI, Bool.false_eq_true]
          exact ⟨B2, rfl, t2, fru_t f1 f2⟩
        | true =>
          rw [hok, bI_t (by decide)] at s1
          simp (disch := omega) only [s28_0, s28_1, s28_2, s28_5, s28_6, s28_9, s28_10, s28_11, s28_12, s28_12b, s28_15, s28_16, s28_21, s28_21b, s28_24, s28_25, s28_26, s28_27, s28_31, s28_32, m28_33, s28_36, s28_41, s28_42, s28_42b, Int.toNat_natCast, Int.toNat_natCast, Nat.reduceAdd, Nat.reduceMul, Int.reduceToNat, Int.reduceAdd, Int.reduceLT, Int.reduceLE, Int.reduceEq, Int.reduceNeg, Int.reduceMul, Int.reduceSub, Nat.reduceSub, reduceIte, ite_true, ite_false, and_true, true_and, and_self, hlt, m28_18 h30, ew, m28_28 s1, ug_k, hG, nz_u, m28_38 u1 (by omega) s2, bI]
          exact ⟨B2, rfl, t2, fru_t f1 f2⟩
      rw [if_neg c1]
      have h33 := sp30_f (d := d - 1) (N := N) (L := L) (B := B) (by omega) h (by decide) hpn c1
      by_cases c2 : nxG G n p = 40
      · rw [if_pos c2]
        have l1 := txt_lt ht (by decide) c2
        have h40 := sp30_t (d := d - 1) (N := N) (L := L) (B := B) (by omega) h (by decide) c2
        have hg := eit_g ht (one_g ht m) (p + 1) (by omega)
        have r27 := rd27 h hu hG (one_g ht m) ihw (by omega)
        have r26 := rd26 h hu hG (bot_g ht (one_g ht m)) r27 (by omega)
        obtain ⟨B1, s1, t1, f1⟩ := r26 (d - 1) (by omega) B l (p + 1) (by omega) hB (by omega)
        unfold parS
        cases hok : (eitS (nxG G n) (oneS (nxG G n) m) (p + 1)).1 with
        | false =>
          rw [hok, bI_f (by decide)] at s1
          simp (disch := omega) only [s28_0, s28_1, s28_2, s28_5, s28_6, s28_9, s28_10, s28_11, s28_12, s28_12b, s28_15, s28_16, s28_21, s28_21b, s28_24, s28_25, s28_26, s28_27, s28_31, s28_32, m28_33, s28_36, s28_41, s28_42, s28_42b, s28_43, s28_44, s28_44b, s28_47, s28_48, s28_53, s28_53b, s28_56, s28_57, s28_58, s28_59, s28_63, s28_63b, s28_66, s28_67, s28_72, s28_72b, s28_75, s28_76, s28_79, s28_80, s28_80b, Int.toNat_natCast, Int.toNat_natCast, Nat.reduceAdd, Nat.reduceMul, Int.reduceToNat, Int.reduceAdd, Int.reduceLT, Int.reduceLE, Int.reduceEq, Int.reduceNeg, Int.reduceMul, Int.reduceSub, Nat.reduceSub, reduceIte, ite_true, ite_false, and_true, true_and, and_self, hlt, m28_18 h33, m28_50 h40, ew, m28_60 s1, bI, Bool.false_eq_true, hok]
          exact ⟨B1, rfl, t1, f1⟩
        | true =>
          rw [hok, bI_t (by decide)] at s1
          by_cases c3 : nxG G n (eitS (nxG G n) (oneS (nxG G n) m) (p + 1)).2.1 = 41
          · have h41 := sp30_t (d := d - 1) (N := N) (L := L) (B := B1) (by omega) h (by decide) c3
            have c3' := eq_true c3
            simp (disch := omega) only [s28_0, s28_1, s28_2, s28_5, s28_6, s28_9, s28_10, s28_11, s28_12, s28_12b, s28_15, s28_16, s28_21, s28_21b, s28_24, s28_25, s28_26, s28_27, s28_31, s28_32, m28_33, s28_36, s28_41, s28_42, s28_42b, s28_43, s28_44, s28_44b, s28_47, s28_48, s28_53, s28_53b, s28_56, s28_57, s28_58, s28_59, s28_63, s28_63b, s28_66, s28_67, s28_72, s28_72b, s28_75, s28_76, s28_79, s28_80, s28_80b, Int.toNat_natCast, Int.toNat_natCast, Nat.reduceAdd, Nat.reduceMul, Int.reduceToNat, Int.reduceAdd, Int.reduceLT, Int.reduceLE, Int.reduceEq, Int.reduceNeg, Int.reduceMul, Int.reduceSub, Nat.reduceSub, reduceIte, ite_true, ite_false, and_true, true_and, and_self, hlt, m28_18 h33, m28_50 h40, ew, m28_60 s1, m28_69 h41, bI, hok, c3']
            exact ⟨B1, rfl, t1, f1⟩
          · have h41 := sp30_f (d := d - 1) (N := N) (L := L) (B := B1) (by omega) h (by decide) hg.2 c3
            have c3' := eq_false c3
            simp (disch := omega) only [s28_0, s28_1, s28_2, s28_5, s28_6, s28_9, s28_10, s28_11, s28_12, s28_12b, s28_15, s28_16, s28_21, s28_21b, s28_24, s28_25, s28_26, s28_27, s28_31, s28_32, m28_33, s28_36, s28_41, s28_42, s28_42b, s28_43, s28_44, s28_44b, s28_47, s28_48, s28_53, s28_53b, s28_56, s28_57, s28_58, s28_59, s28_63, s28_63b, s28_66, s28_67, s28_72, s28_72b, s28_75, s28_76, s28_79, s28_80, s28_80b, Int.toNat_natCast, Int.toNat_natCast, Nat.reduceAdd, Nat.reduceMul, Int.reduceToNat, Int.reduceAdd, Int.reduceLT, Int.reduceLE, Int.reduceEq, Int.reduceNeg, Int.reduceMul, Int.reduceSub, Nat.reduceSub, reduceIte, ite_true, ite_false, and_true, true_and, and_self, hlt, m28_18 h33, m28_50 h40, ew, m28_60 s1, m28_69 h41, bI, hok, c3', Bool.false_eq_true]
            exact ⟨B1, rfl, t1, f1⟩
      · rw [if_neg c2]
        have h40 := sp30_f (d := d - 1) (N := N) (L := L) (B := B) (by omega) h (by decide) hpn c2
        simp (disch := omega) only [s28_0, s28_1, s28_2, s28_5, s28_6, s28_9, s28_10, s28_11, s28_12, s28_12b, s28_15, s28_16, s28_21, s28_21b, s28_24, s28_25, s28_26, s28_27, s28_31, s28_32, m28_33, s28_36, s28_41, s28_42, s28_42b, s28_43, s28_44, s28_44b, s28_47, s28_48, s28_53, s28_53b, Int.toNat_natCast, Int.toNat_natCast, Nat.reduceAdd, Nat.reduceMul, Int.reduceToNat, Int.reduceAdd, Int.reduceLT, Int.reduceLE, Int.reduceEq, Int.reduceNeg, Int.reduceMul, Int.reduceSub, Nat.reduceSub, reduceIte, ite_true, ite_false, and_true, true_and, and_self, hlt, m28_18 h33, m28_50 h40]
        exact wp28t h hu hG (d - 1) (by omega) B l p hpn hB hl rfl)
    exact ⟨B', by rw [hr, hX] at hS; exact hS, q⟩
