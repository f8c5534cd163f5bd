/-! the model: a MEAL that a number tells -/
def dgN (m : Nat) : List Nat := [m / 5 / 5 / 5 % 5, m / 5 / 5 % 5, m / 5 % 5, m % 5]
def okN (s : Nat → Nat) (m : Nat) : Bool := decide (m / 5 / 5 / 5 % 5 ≤ s 0) && decide (m / 5 / 5 % 5 ≤ s 1) && decide (m / 5 % 5 ≤ s 2) && decide (m % 5 ≤ s 3) && decide (m / 5 / 5 / 5 % 5 + m / 5 / 5 % 5 + m / 5 % 5 + m % 5 ≤ 4)
def suN (m : Nat) : Nat := m / 5 / 5 / 5 % 5 + m / 5 / 5 % 5 + m / 5 % 5 + m % 5
theorem wp165 {d m w1 w2 w3 w4 d0 d1 d2 d3 N L : Nat} {B : q_Bv} {G : q_Gi} {s : Nat → Nat} (hs : ∀ j, j < 4 → G 87 j = (s j : Int)) (hs2 : ∀ j, j < 4 → s j ≤ 99) (e1 : (m : Int) % 5 = (d3 : Int)) (e2 : (m : Int) / 5 = (w1 : Int)) (e3 : (w1 : Int) % 5 = (d2 : Int)) (e4 : (w1 : Int) / 5 = (w2 : Int)) (e5 : (w2 : Int) % 5 = (d1 : Int)) (e6 : (w2 : Int) / 5 = (w3 : Int)) (e7 : (w3 : Int) % 5 = (d0 : Int)) (e8 : (w3 : Int) / 5 = (w4 : Int)) (hm : m < 625) (k1 : w1 ≤ 625) (k2 : w2 ≤ 625) (k3 : w3 ≤ 625) (k4 : w4 ≤ 625) (r0 : d0 < 5) (r1 : d1 < 5) (r2 : d2 < 5) (r3 : d3 < 5) : WP d 165 0 [.ref 82, vI m, .null, .null, .null] [] (hp N L B G) (fun r1 X1 => ∃ G', r1 = some (vI (if d0 ≤ s 0 ∧ d1 ≤ s 1 ∧ d2 ≤ s 2 ∧ d3 ≤ s 3 ∧ d0 + d1 + d2 + d3 ≤ 4 then ((d0 + d1 + d2 + d3 : Nat) : Int) else -1)) ∧ X1 = hp N L B G' ∧ (d0 ≤ s 0 ∧ d1 ≤ s 1 ∧ d2 ≤ s 2 ∧ d3 ≤ s 3 ∧ d0 + d1 + d2 + d3 ≤ 4 → G' 100 0 = (d0 : Int) ∧ G' 100 1 = (d1 : Int) ∧ G' 100 2 = (d2 : Int) ∧ G' 100 3 = (d3 : Int)) ∧ ∀ a, a ≠ 100 → G' a = G a) := by
  have h0 := hs 0 (by decide)
  have h1 := hs 1 (by decide)
  have h2 := hs 2 (by decide)
  have h3 := hs 3 (by decide)
  have z0 := hs2 0 (by decide)
  have z1 := hs2 1 (by decide)
  have z2 := hs2 2 (by decide)
  have z3 := hs2 3 (by decide)
  by_cases c3 : d3 ≤ s 3
  · have c3' : ¬ (s 3 : Int) < (d3 : Int) := by omega
    have c3'' : (d3 : Int) ≤ (s 3 : Int) := by omega
    by_cases c2 : d2 ≤ s 2
    · have c2' : ¬ (s 2 : Int) < (d2 : Int) := by omega
      have c2'' : (d2 : Int) ≤ (s 2 : Int) := by omega
      by_cases c1 : d1 ≤ s 1
      · have c1' : ¬ (s 1 : Int) < (d1 : Int) := by omega
        have c1'' : (d1 : Int) ≤ (s 1 : Int) := by omega
        by_cases c0 : d0 ≤ s 0
        · have c0' : ¬ (s 0 : Int) < (d0 : Int) := by omega
          have c0'' : (d0 : Int) ≤ (s 0 : Int) := by omega
          by_cases cs : d0 + d1 + d2 + d3 ≤ 4
          · have cs' : ¬ 4 < 0 + (d3 : Int) + (d2 : Int) + (d1 : Int) + (d0 : Int) := by omega
            have cs'' : 0 + (d3 : Int) + (d2 : Int) + (d1 : Int) + (d0 : Int) ≤ 4 := by omega
            rw [if_pos ⟨c0, c1, c2, c3, cs⟩]
            simp (disch := omega) only [s165_0, s165_1, s165_2, s165_3, s165_4, s165_5, s165_7, s165_9, s165_12, m165_13, s165_16, s165_18, s165_19, s165_20, m165_21, s165_22, s165_23, s165_24, s165_25, s165_26, s165_27, m165_28, s165_31, m165_33, s165_34, s165_35, s165_36, m165_37, s165_40, m165_42, s165_43, m165_44, s165_47, m165_49, s165_50, s165_53, s165_54, s165_55, s165_58, s165_61, s165_62, s165_63, s165_66, s165_67, s165_70, s165_71, Int.toNat_natCast, Int.toNat_natCast, Nat.reduceAdd, Nat.reduceMul, Int.reduceToNat, Int.reduceAdd, Int.reduceLT, Int.reduceLE, Int.reduceEq, Int.reduceNeg, Int.reduceMul, Int.reduceSub, Nat.reduceSub, reduceIte, ite_true, ite_false, and_true, true_and, and_self, e1, e2, e3, e4, e5, e6, e7, e8, ug_at, ug_ne, h0, h1, h2, h3, c3', c2', c1', c0', cs', c3'', c2'', c1'', c0'', cs'']
            refine ⟨_, ?_, rfl, fun _ => ⟨?_, ?_, ?_, ?_⟩, ?_⟩
            · rw [show 0 + (d3 : Int) + (d2 : Int) + (d1 : Int) + (d0 : Int) = ((d0 + d1 + d2 + d3 : Nat) : Int) by omega]
            · simp (disch := omega) only [ug_at, ug_k]
            · simp (disch := omega) only [ug_at, ug_k]
            · simp (disch := omega) only [ug_at, ug_k]
            · simp (disch := omega) only [ug_at, ug_k]
            · intro a ha; simp (disch := omega) only [ug_ne]
          · have cs' : 4 < 0 + (d3 : Int) + (d2 : Int) + (d1 : Int) + (d0 : Int) := by omega
            have cs'' : ¬ 0 + (d3 : Int) + (d2 : Int) + (d1 : Int) + (d0 : Int) ≤ 4 := by omega
            rw [if_neg (fun h => cs h.2.2.2.2)]
            simp (disch := omega) only [s165_0, s165_1, s165_2, s165_3, s165_4, s165_5, s165_7, s165_9, s165_12, m165_13, s165_16, s165_18, s165_19, s165_20, m165_21, s165_22, s165_23, s165_24, s165_25, s165_26, s165_27, m165_28, s165_31, m165_33, s165_34, s165_35, s165_36, m165_37, s165_40, m165_42, s165_43, m165_44, s165_47, m165_49, s165_50, s165_53, s165_54, s165_55, s165_58, s165_61, s165_62, s165_63, s165_66, s165_67, s165_70, s165_71, Int.toNat_natCast, Int.toNat_natCast, Nat.reduceAdd, Nat.reduceMul, Int.reduceToNat, Int.reduceAdd, Int.reduceLT, Int.reduceLE, Int.reduceEq, Int.reduceNeg, Int.reduceMul, Int.reduceSub, Nat.reduceSub, reduceIte, ite_true, ite_false, and_true, true_and, and_self, e1, e2, e3, e4, e5, e6, e7, e8, ug_at, ug_ne, h0, h1, h2, h3, c3', c2', c1', c0', cs', c3'', c2'', c1'', c0'', cs'']
            refine ⟨_, rfl, fun h => absurd h.2.2.2.2 cs, ?_⟩
            intro a ha; simp (disch := omega) only [ug_ne]
        · have c0' : (s 0 : Int) < (d0 : Int) := by omega
          have c0'' : ¬ (d0 : Int) ≤ (s 0 : Int) := by omega
          rw [if_neg (fun h => c0 h.1)]
          simp (disch := omega) only [s165_0, s165_1, s165_2, s165_3, s165_4, s165_5, s165_7, s165_9, s165_12, m165_13, s165_16, s165_18, s165_19, s165_20, m165_21, s165_22, s165_23, s165_24, s165_25, s165_26, s165_27, m165_28, s165_31, m165_33, s165_34, s165_35, s165_36, m165_37, s165_40, m165_42, s165_43, m165_44, s165_47, m165_49, s165_50, s165_53, s165_54, s165_55, s165_58, s165_61, s165_62, s165_63, s165_66, s165_67, s165_70, s165_71, Int.toNat_natCast, Int.toNat_natCast, Nat.reduceAdd, Nat.reduceMul, Int.reduceToNat, Int.reduceAdd, Int.reduceLT, Int.reduceLE, Int.reduceEq, Int.reduceNeg, Int.reduceMul, Int.reduceSub, Nat.reduceSub, reduceIte, ite_true, ite_false, and_true, true_and, and_self, e1, e2, e3, e4, e5, e6, e7, e8, ug_at, ug_ne, h0, h1, h2, h3, c3', c2', c1', c0', c3'', c2'', c1'', c0'']
          refine ⟨_, rfl, fun h => absurd h.1 c0, ?_⟩
          intro a ha; simp (disch := omega) only [ug_ne]
      · have c1' : (s 1 : Int) < (d1 : Int) := by omega
        have c1'' : ¬ (d1 : Int) ≤ (s 1 : Int) := by omega
        rw [if_neg (fun h => c1 h.2.1)]
        simp (disch := omega) only [s165_0, s165_1, s165_2, s165_3, s165_4, s165_5, s165_7, s165_9, s165_12, m165_13, s165_16, s165_18, s165_19, s165_20, m165_21, s165_22, s165_23, s165_24, s165_25, s165_26, s165_27, m165_28, s165_31, m165_33, s165_34, s165_35, s165_36, m165_37, s165_40, m165_42, s165_43, m165_44, s165_47, m165_49, s165_50, s165_53, s165_54, s165_55, s165_58, s165_61, s165_62, s165_63, s165_66, s165_67, s165_70, s165_71, Int.toNat_natCast, Int.toNat_natCast, Nat.reduceAdd, Nat.reduceMul, Int.reduceToNat, Int.reduceAdd, Int.reduceLT, Int.reduceLE, Int.reduceEq, Int.reduceNeg, Int.reduceMul, Int.reduceSub, Nat.reduceSub, reduceIte, ite_true, ite_false, and_true, true_and, and_self, e1, e2, e3, e4, e5, e6, e7, e8, ug_at, ug_ne, h0, h1, h2, h3, c3', c2', c1', c3'', c2'', c1'']
        refine ⟨_, rfl, fun h => absurd h.2.1 c1, ?_⟩
        intro a ha; simp (disch := omega) only [ug_ne]
    · have c2' : (s 2 : Int) < (d2 : Int) := by omega
      have c2'' : ¬ (d2 : Int) ≤ (s 2 : Int) := by omega
      rw [if_neg (fun h => c2 h.2.2.1)]
      simp (disch := omega) only [s165_0, s165_1, s165_2, s165_3, s165_4, s165_5, s165_7, s165_9, s165_12, m165_13, s165_16, s165_18, s165_19, s165_20, m165_21, s165_22, s165_23, s165_24, s165_25, s165_26, s165_27, m165_28, s165_31, m165_33, s165_34, s165_35, s165_36, m165_37, s165_40, m165_42, s165_43, m165_44, s165_47, m165_49, s165_50, s165_53, s165_54, s165_55, s165_58, s165_61, s165_62, s165_63, s165_66, s165_67, s165_70, s165_71, Int.toNat_natCast, Int.toNat_natCast, Nat.reduceAdd, Nat.reduceMul, Int.reduceToNat, Int.reduceAdd, Int.reduceLT, Int.reduceLE, Int.reduceEq, Int.reduceNeg, Int.reduceMul, Int.reduceSub, Nat.reduceSub, reduceIte, ite_true, ite_false, and_true, true_and, and_self, e1, e2, e3, e4, e5, e6, e7, e8, ug_at, ug_ne, h0, h1, h2, h3, c3', c2', c3'', c2'']
      refine ⟨_, rfl, fun h => absurd h.2.2.1 c2, ?_⟩
      intro a ha; simp (disch := omega) only [ug_ne]
  · have c3' : (s 3 : Int) < (d3 : Int) := by omega
    have c3'' : ¬ (d3 : Int) ≤ (s 3 : Int) := by omega
    rw [if_neg (fun h => c3 h.2.2.2.1)]
    simp (disch := omega) only [s165_0, s165_1, s165_2, s165_3, s165_4, s165_5, s165_7, s165_9, s165_12, m165_13, s165_16, s165_18, s165_19, s165_20, m165_21, s165_22, s165_23, s165_24, s165_25, s165_26, s165_27, m165_28, s165_31, m165_33, s165_34, s165_35, s165_36, m165_37, s165_40, m165_42, s165_43, m165_44, s165_47, m165_49, s165_50, s165_53, s165_54, s165_55, s165_58, s165_61, s165_62, s165_63, s165_66, s165_67, s165_70, s165_71, Int.toNat_natCast, Int.toNat_natCast, Nat.reduceAdd, Nat.reduceMul, Int.reduceToNat, Int.reduceAdd, Int.reduceLT, Int.reduceLE, Int.reduceEq, Int.reduceNeg, Int.reduceMul, Int.reduceSub, Nat.reduceSub, reduceIte, ite_true, ite_false, and_true, true_and, and_self, e1, e2, e3, e4, e5, e6, e7, e8, ug_at, ug_ne, h0, h1, h2, h3, c3', c3'']
    refine ⟨_, rfl, fun h => absurd h.2.2.2.1 c3, ?_⟩
    intro a ha; simp (disch := omega) only [ug_ne]
theorem okN_iff {s : Nat → Nat} {m : Nat} : okN s m = true ↔ (m / 5 / 5 / 5 % 5 ≤ s 0 ∧ m / 5 / 5 % 5 ≤ s 1 ∧ m / 5 % 5 ≤ s 2 ∧ m % 5 ≤ s 3 ∧ m / 5 / 5 / 5 % 5 + m / 5 / 5 % 5 + m / 5 % 5 + m % 5 ≤ 4) := by
  unfold okN
  simp only [Bool.and_eq_true, decide_eq_true_eq, and_assoc]
theorem sp165 {d m N L : Nat} {B : q_Bv} {G : q_Gi} {s : Nat → Nat} (hd : 1 ≤ d) (hm : m < 625) (hs : ∀ j, j < 4 → G 87 j = (s j : Int)) (hs2 : ∀ j, j < 4 → s j ≤ 99) : ∃ G', Sp d 165 [.ref 82, vI m] (hp N L B G) (some (vI (if okN s m = true then (suN m : Int) else -1))) (hp N L B G') ∧ (okN s m = true → ∀ j, j < 4 → G' 100 j = (((dgN m).getD j 0 : Nat) : Int)) ∧ ∀ a, a ≠ 100 → G' a = G a := by
  have q1 : m / 5 ≤ 625 := Nat.le_trans (Nat.div_le_self _ _) (by omega)
  have q2 : m / 5 / 5 ≤ 625 := Nat.le_trans (Nat.div_le_self _ _) q1
  have q3 : m / 5 / 5 / 5 ≤ 625 := Nat.le_trans (Nat.div_le_self _ _) q2
  have q4 : m / 5 / 5 / 5 / 5 ≤ 625 := Nat.le_trans (Nat.div_le_self _ _) q3
  have h := wp165 (d := d - 1) (m := m) (w1 := m / 5) (w2 := m / 5 / 5) (w3 := m / 5 / 5 / 5) (w4 := m / 5 / 5 / 5 / 5) (d0 := m / 5 / 5 / 5 % 5) (d1 := m / 5 / 5 % 5) (d2 := m / 5 % 5) (d3 := m % 5) (N := N) (L := L) (B := B) (G := G) hs hs2 rfl rfl rfl rfl rfl rfl rfl rfl hm q1 q2 q3 q4 (Nat.mod_lt _ (by decide)) (Nat.mod_lt _ (by decide)) (Nat.mod_lt _ (by decide)) (Nat.mod_lt _ (by decide))
  obtain ⟨r1, X1, hS, G', hr, hX, a1, a2⟩ := E165 (d := d) (X := hp N L B G) (z1 := (m : Int)) hd h
  refine ⟨G', ?_, fun ho j hj => ?_, a2⟩
  · rw [hr, hX] at hS
    by_cases c : okN s m = true
    · rw [if_pos c]
      rw [if_pos (okN_iff.mp c)] at hS
      exact hS
    · rw [if_neg c]
      rw [if_neg (fun e => c (okN_iff.mpr e))] at hS
      exact hS
  · obtain ⟨b0, b1, b2, b3⟩ := a1 (okN_iff.mp ho)
    have hj' : j = 0 ∨ j = 1 ∨ j = 2 ∨ j = 3 := by omega
    rcases hj' with rfl | rfl | rfl | rfl
    · exact b0
    · exact b1
    · exact b2
    · exact b3
