/-! the model: tapes, judge -/
def mtv (G T : q_Gi) : Prop := (∀ j, j < 6 → G 125 j = T 0 j) ∧ (∀ j, j < 6 → G 126 j = T 1 j) ∧ ∀ j k, j < 6 → k < 60 → G 127 (60 * j + k) = T (2 + j) k
theorem mtv_f {G G' T : q_Gi} (h : mtv G T) (e : ∀ a, 125 ≤ a → a ≤ 127 → G' a = G a) : mtv G' T := by
  unfold mtv at h ⊢
  rw [e 125 (by omega) (by omega), e 126 (by omega) (by omega), e 127 (by omega) (by omega)]
  exact h
/-- the tapes' frame -/
def mtf (G G' : q_Gi) : Prop := ∀ a, (a < 125 ∨ 128 < a) → G' a = G a
theorem sp201 {d N L : Nat} {z : Int} {B : q_Bv} {G : q_Gi} (hd : 2 ≤ d) (hz : -2147483648 ≤ z ∧ z ≤ 2147483647) : Sp d 201 [.ref 82, vI z] (hp N L B G) (some (vI (bI (0 ≤ z ∧ z < 6)))) (hp N L B G) := by
  have h := sp109 (d := d - 1) (z := z) (lo := 0) (hi := 5) (X := hp N L B G) (by omega) hz (by omega) (by omega)
  rw [bI_c (show (0 ≤ z ∧ z ≤ 5) ↔ (0 ≤ z ∧ z < 6) by omega)] at h
  refine e201 (by omega) ?_
  simp (disch := omega) only [s201_0, s201_1, s201_2, s201_3, s201_7, s201_7b, Int.toNat_natCast, Int.toNat_natCast, Nat.reduceAdd, Nat.reduceMul, Int.reduceToNat, Int.reduceAdd, Int.reduceLT, Int.reduceLE, Int.reduceEq, Int.reduceNeg, Int.reduceMul, Int.reduceSub, Nat.reduceSub, reduceIte, ite_true, ite_false, and_true, true_and, and_self, m201_4 h]
theorem lp202 {d j N L : Nat} {s n : Int} {B : q_Bv} {G0 : q_Gi} (hj : j < 6) {Q : Option Value → q_H → Prop} (hQ : ∀ G' : q_Gi, (∀ k, G' 127 k = if 60 * j ≤ k ∧ k < 60 * j + 60 then 0 else G0 127 k) → (∀ a, a ≠ 127 → G' a = G0 a) → Q (some (vI 1)) (hp N L B G')) : ∀ (m k : Nat) (G : q_Gi), k + m = 60 → (∀ i, G 127 i = if 60 * j ≤ i ∧ i < 60 * j + k then 0 else G0 127 i) → (∀ a, a ≠ 127 → G a = G0 a) → WP d 202 69 [.ref 82, vI j, vI s, vI n, vI k] [] (hp N L B G) Q := by
  intro m
  induction m with
  | zero =>
    intro k G hk hz hG
    obtain rfl : k = 60 := by omega
    have := hQ G hz hG
    simp (disch := omega) only [s202_69, s202_71, s202_73, s202_76, m202_77, s202_80, s202_82, s202_83, s202_84, s202_86, s202_87, m202_88, s202_89, s202_92, s202_95, s202_96, Int.toNat_natCast, Int.toNat_natCast, Nat.reduceAdd, Nat.reduceMul, Int.reduceToNat, Int.reduceAdd, Int.reduceLT, Int.reduceLE, Int.reduceEq, Int.reduceNeg, Int.reduceMul, Int.reduceSub, Nat.reduceSub, reduceIte, ite_true, ite_false, and_true, true_and, and_self, show ((60 : Nat) : Int) = 60 from rfl]
    exact this
  | succ m ih =>
    intro k G hk hz hG
    have h1 : (k : Int) < 60 := by omega
    have e : (60 * (j : Int) + (k : Int)).toNat = 60 * j + k := by omega
    have := ih (k + 1) (ug G 127 (60 * j + k) 0) (by omega) (fun i => by
      by_cases c : i = 60 * j + k
      · rw [c, ug_at, if_pos (by omega)]
      · rw [ug_k c, hz i]
        by_cases c2 : 60 * j ≤ i ∧ i < 60 * j + k
        · rw [if_pos c2, if_pos (by omega)]
        · rw [if_neg c2, if_neg (by omega)]) (fun a ha => by rw [ug_ne ha]; exact hG a ha)
    rw [s202_69]
    simp (disch := omega) only [s202_71, s202_73, s202_76, m202_77, s202_80, s202_82, s202_83, s202_84, s202_86, s202_87, m202_88, s202_89, s202_92, Int.toNat_natCast, Int.toNat_natCast, Nat.reduceAdd, Nat.reduceMul, Int.reduceToNat, Int.reduceAdd, Int.reduceLT, Int.reduceLE, Int.reduceEq, Int.reduceNeg, Int.reduceMul, Int.reduceSub, Nat.reduceSub, reduceIte, ite_true, ite_false, and_true, true_and, and_self, h1, e]
    exact this
theorem sp202 {d N L : Nat} {z s n : Int} {B : q_Bv} {G T : q_Gi} (hd : 4 ≤ d) (h : mtv G T) (hz : -2147483648 ≤ z ∧ z ≤ 2147483647) (hs : -2147483648 ≤ s ∧ s ≤ 2147483647) (hn : -2147483648 ≤ n ∧ n ≤ 2147483647) : ∃ G', Sp d 202 [.ref 82, vI z, vI s, vI n] (hp N L B G) (some (vI (x90 T z s n).1)) (hp N L B G') ∧ mtv G' (x90 T z s n).2 ∧ mtf G G' := by
  have a1 := sp201 (d := d - 1) (z := z) (N := N) (L := L) (B := B) (G := G) (by omega) hz
  have a2 := sp109 (d := d - 1) (z := s) (lo := -1) (hi := 4) (X := hp N L B G) (by omega) hs (by omega) (by omega)
  unfold x90
  by_cases c1 : 0 ≤ z ∧ z < 6
  · rw [bI_t c1] at a1
    rw [if_pos c1]
    obtain ⟨j, rfl⟩ : ∃ j : Nat, z = (j : Int) := ⟨z.toNat, by omega⟩
    rw [Int.toNat_natCast]
    have hj : j < 6 := by omega
    have key : ∀ n', (WP (d - 1) 202 66 [.ref 82, vI j, vI s, vI n, .null] [] (hp N L B (ug (ug G 125 j s) 126 j n')) (fun r1 X1 => ∃ G', r1 = some (vI 1) ∧ X1 = hp N L B G' ∧ mtv G' (becS T j s n') ∧ mtf G G')) := by
      intro n'
      simp (disch := omega) only [s202_66, s202_67, Int.toNat_natCast, Int.toNat_natCast, Nat.reduceAdd, Nat.reduceMul, Int.reduceToNat, Int.reduceAdd, Int.reduceLT, Int.reduceLE, Int.reduceEq, Int.reduceNeg, Int.reduceMul, Int.reduceSub, Nat.reduceSub, reduceIte, ite_true, ite_false, and_true, true_and, and_self]
      refine lp202 (d := d - 1) (G0 := ug (ug G 125 j s) 126 j n') hj (fun G' q1 q2 => ⟨G', rfl, rfl, ⟨fun i hi => ?_, fun i hi => ?_, fun i k hi hk => ?_⟩, fun a ha => ?_⟩) 60 0 _ rfl (fun i => by rw [if_neg (by omega)]) (fun _ _ => rfl)
      · rw [q2 125 (by omega), ug_ne (by omega)]
        show _ = if 0 = 0 ∧ i = j then s else if 0 = 1 ∧ i = j then n' else if 0 = 2 + j then 0 else T 0 i
        by_cases c : i = j
        · rw [c, ug_at, if_pos ⟨rfl, rfl⟩]
        · rw [ug_k c, if_neg (fun e => c e.2), if_neg (by omega), if_neg (by omega)]; exact h.1 i hi
      · rw [q2 126 (by omega)]
        show _ = if 1 = 0 ∧ i = j then s else if 1 = 1 ∧ i = j then n' else if 1 = 2 + j then 0 else T 1 i
        by_cases c : i = j
        · rw [c, ug_at, if_neg (by omega), if_pos ⟨rfl, rfl⟩]
        · rw [ug_k c, ug_ne (by omega), if_neg (by omega), if_neg (fun e => c e.2), if_neg (by omega)]; exact h.2.1 i hi
      · have er : becS T j s n' (2 + i) k = if i = j then 0 else T (2 + i) k := by
          show (if 2 + i = 0 ∧ k = j then s else if 2 + i = 1 ∧ k = j then n' else if 2 + i = 2 + j then 0 else T (2 + i) k) = _
          rw [if_neg (show ¬ (2 + i = 0 ∧ k = j) by omega), if_neg (show ¬ (2 + i = 1 ∧ k = j) by omega)]
          by_cases c : i = j
          · rw [if_pos c, if_pos (by omega)]
          · rw [if_neg c, if_neg (by omega)]
        rw [er, q1, ug_ne (by omega), ug_ne (by omega)]
        by_cases c : i = j
        · rw [if_pos c, if_pos (by omega)]
        · rw [if_neg c, if_neg (by omega)]; exact h.2.2 i k hi hk
      · rw [q2 a (by omega), ug_ne (by omega), ug_ne (by omega)]
    by_cases c2 : -1 ≤ s ∧ s ≤ 4
    · rw [bI_t c2] at a2
      by_cases c3 : s = -1
      · rw [if_pos c3]
        subst c3
        obtain ⟨r1, X1, hS, G', hr, hX, q⟩ := E202 (d := d) (X := hp N L B G) (z1 := (j : Int)) (z2 := -1) (z3 := n) (Q := fun r1 X1 => ∃ G', r1 = some (vI 1) ∧ X1 = hp N L B G' ∧ mtv G' (becS T j (-1) 0) ∧ mtf G G') (by omega) (by
          have := key 0
          simp (disch := omega) only [s202_0, s202_1, s202_5, s202_5b, s202_8, s202_9, s202_10, s202_11, s202_12, s202_13, s202_17, s202_17b, s202_20, s202_21, s202_24, s202_25, s202_27, s202_30, s202_32, s202_33, s202_34, s202_37, s202_38, s202_41, s202_43, s202_44, m202_45, s202_48, s202_49, m202_50, s202_51, m202_52, s202_55, s202_56, s202_57, s202_60, s202_61, s202_64, m202_65, Int.toNat_natCast, Int.toNat_natCast, Nat.reduceAdd, Nat.reduceMul, Int.reduceToNat, Int.reduceAdd, Int.reduceLT, Int.reduceLE, Int.reduceEq, Int.reduceNeg, Int.reduceMul, Int.reduceSub, Nat.reduceSub, reduceIte, ite_true, ite_false, and_true, true_and, and_self, m202_2 a1, m202_14 a2]
          exact this)
        exact ⟨G', by rw [hr, hX] at hS; exact hS, q⟩
      · rw [if_neg c3]
        have s0 : ¬ s < 0 := by omega
        by_cases c4 : n ≤ 60
        · rw [if_pos ⟨by omega, c4⟩]
          have c4' : ¬ 60 < n := by omega
          by_cases c5 : n < 0
          · rw [if_pos c5]
            refine ⟨G, ?_, h, fun _ _ => rfl⟩
            refine e202 (by omega) ?_
            simp (disch := omega) only [s202_0, s202_1, s202_5, s202_5b, s202_8, s202_9, s202_10, s202_11, s202_12, s202_13, s202_17, s202_17b, s202_20, s202_21, s202_24, s202_25, s202_27, s202_30, s202_32, s202_33, s202_34, s202_37, s202_38, s202_41, s202_43, s202_44, m202_45, s202_48, s202_49, m202_50, s202_51, m202_52, s202_55, s202_56, s202_57, s202_60, s202_61, s202_64, m202_65, Int.toNat_natCast, Int.toNat_natCast, Nat.reduceAdd, Nat.reduceMul, Int.reduceToNat, Int.reduceAdd, Int.reduceLT, Int.reduceLE, Int.reduceEq, Int.reduceNeg, Int.reduceMul, Int.reduceSub, Nat.reduceSub, reduceIte, ite_true, ite_false, and_true, true_and, and_self, m202_2 a1, m202_14 a2, s0, c4, c4', c5]
          · rw [if_neg c5]
            obtain ⟨r1, X1, hS, G', hr, hX, q⟩ := E202 (d := d) (X := hp N L B G) (z1 := (j : Int)) (z2 := s) (z3 := n) (Q := fun r1 X1 => ∃ G', r1 = some (vI 1) ∧ X1 = hp N L B G' ∧ mtv G' (becS T j s n) ∧ mtf G G') (by omega) (by
              have := key n
              simp (disch := omega) only [s202_0, s202_1, s202_5, s202_5b, s202_8, s202_9, s202_10, s202_11, s202_12, s202_13, s202_17, s202_17b, s202_20, s202_21, s202_24, s202_25, s202_27, s202_30, s202_32, s202_33, s202_34, s202_37, s202_38, s202_41, s202_43, s202_44, m202_45, s202_48, s202_49, m202_50, s202_51, m202_52, s202_55, s202_56, s202_57, s202_60, s202_61, s202_64, m202_65, Int.toNat_natCast, Int.toNat_natCast, Nat.reduceAdd, Nat.reduceMul, Int.reduceToNat, Int.reduceAdd, Int.reduceLT, Int.reduceLE, Int.reduceEq, Int.reduceNeg, Int.reduceMul, Int.reduceSub, Nat.reduceSub, reduceIte, ite_true, ite_false, and_true, true_and, and_self, m202_2 a1, m202_14 a2, s0, c4, c4', c5]
              exact this)
            exact ⟨G', by rw [hr, hX] at hS; exact hS, q⟩
        · rw [if_neg (fun e => c4 e.2)]
          have c4' : 60 < n := by omega
          refine ⟨G, ?_, h, fun _ _ => rfl⟩
          refine e202 (by omega) ?_
          simp (disch := omega) only [s202_0, s202_1, s202_5, s202_5b, s202_8, s202_9, s202_10, s202_11, s202_12, s202_13, s202_17, s202_17b, s202_20, s202_21, s202_24, s202_25, s202_27, s202_30, s202_32, s202_33, s202_34, s202_37, s202_38, s202_41, s202_43, s202_44, m202_45, s202_48, s202_49, m202_50, s202_51, m202_52, s202_55, s202_56, s202_57, s202_60, s202_61, s202_64, m202_65, Int.toNat_natCast, Int.toNat_natCast, Nat.reduceAdd, Nat.reduceMul, Int.reduceToNat, Int.reduceAdd, Int.reduceLT, Int.reduceLE, Int.reduceEq, Int.reduceNeg, Int.reduceMul, Int.reduceSub, Nat.reduceSub, reduceIte, ite_true, ite_false, and_true, true_and, and_self, m202_2 a1, m202_14 a2, s0, c4, c4']
    · rw [bI_f c2] at a2
      rw [if_neg (show ¬ s = -1 by omega), if_neg (by omega)]
      refine ⟨G, ?_, h, fun _ _ => rfl⟩
      refine e202 (by omega) ?_
      simp (disch := omega) only [s202_0, s202_1, s202_5, s202_5b, s202_8, s202_9, s202_10, s202_11, s202_12, s202_13, s202_17, s202_17b, s202_20, s202_21, s202_24, s202_25, s202_27, s202_30, s202_32, s202_33, s202_34, s202_37, s202_38, s202_41, s202_43, s202_44, m202_45, s202_48, s202_49, m202_50, s202_51, m202_52, s202_55, s202_56, s202_57, s202_60, s202_61, s202_64, m202_65, Int.toNat_natCast, Int.toNat_natCast, Nat.reduceAdd, Nat.reduceMul, Int.reduceToNat, Int.reduceAdd, Int.reduceLT, Int.reduceLE, Int.reduceEq, Int.reduceNeg, Int.reduceMul, Int.reduceSub, Nat.reduceSub, reduceIte, ite_true, ite_false, and_true, true_and, and_self, m202_2 a1, m202_14 a2]
  · rw [bI_f c1] at a1
    rw [if_neg c1]
    refine ⟨G, ?_, h, fun _ _ => rfl⟩
    refine e202 (by omega) ?_
    simp (disch := omega) only [s202_0, s202_1, s202_5, s202_5b, s202_8, s202_9, s202_10, s202_11, s202_12, s202_13, s202_17, s202_17b, s202_20, s202_21, s202_24, s202_25, s202_27, s202_30, s202_32, s202_33, s202_34, s202_37, s202_38, s202_41, s202_43, s202_44, m202_45, s202_48, s202_49, m202_50, s202_51, m202_52, s202_55, s202_56, s202_57, s202_60, s202_61, s202_64, m202_65, Int.toNat_natCast, Int.toNat_natCast, Nat.reduceAdd, Nat.reduceMul, Int.reduceToNat, Int.reduceAdd, Int.reduceLT, Int.reduceLE, Int.reduceEq, Int.reduceNeg, Int.reduceMul, Int.reduceSub, Nat.reduceSub, reduceIte, ite_true, ite_false, and_true, true_and, and_self, m202_2 a1]
theorem sp203 {d : Nat} {s v : Int} {X : q_H} (hd : 1 ≤ d) (hs : 0 ≤ s ∧ s ≤ 4) (hv : lr v) : Sp d 203 [.ref 82, vI s, vL v] X (some (vL (nrS s v))) X := by
  have h1 := i32_r ((Int32.ofInt (l2i v)).toInt8.toInt32)
  have h2 := i32_r ((Int32.ofInt (l2i v)).toInt16.toInt32)
  have h3 := i32_r ((Int64.ofInt v).toInt32)
  change -2147483648 ≤ i2b (l2i v) ∧ i2b (l2i v) ≤ 2147483647 at h1
  change -2147483648 ≤ i2s (l2i v) ∧ i2s (l2i v) ≤ 2147483647 at h2
  change -2147483648 ≤ l2i v ∧ l2i v ≤ 2147483647 at h3
  obtain ⟨v1, v2⟩ := hv
  refine e203 (by omega) ?_
  have hs' : s = 0 ∨ s = 1 ∨ s = 2 ∨ s = 3 ∨ s = 4 := by omega
  rcases hs' with rfl | rfl | rfl | rfl | rfl
  · simp (disch := omega) only [s203_0, s203_1, s203_1b, s203_4, s203_5, s203_6, s203_7, s203_8, s203_11, s203_12, s203_13, s203_13b, s203_16, s203_17, s203_18, s203_19, s203_20, s203_23, s203_24, s203_25, s203_25b, s203_28, s203_29, s203_30, s203_31, s203_34, s203_35, s203_36, s203_36b, s203_39, s203_40, s203_41, s203_42, s203_42b, s203_45, s203_46, s203_49, s203_50, s203_53, s203_54, Int.toNat_natCast, Int.toNat_natCast, Nat.reduceAdd, Nat.reduceMul, Int.reduceToNat, Int.reduceAdd, Int.reduceLT, Int.reduceLE, Int.reduceEq, Int.reduceNeg, Int.reduceMul, Int.reduceSub, Nat.reduceSub, reduceIte, ite_true, ite_false, and_true, true_and, and_self]; rfl
  · simp (disch := omega) only [s203_0, s203_1, s203_1b, s203_4, s203_5, s203_6, s203_7, s203_8, s203_11, s203_12, s203_13, s203_13b, s203_16, s203_17, s203_18, s203_19, s203_20, s203_23, s203_24, s203_25, s203_25b, s203_28, s203_29, s203_30, s203_31, s203_34, s203_35, s203_36, s203_36b, s203_39, s203_40, s203_41, s203_42, s203_42b, s203_45, s203_46, s203_49, s203_50, s203_53, s203_54, Int.toNat_natCast, Int.toNat_natCast, Nat.reduceAdd, Nat.reduceMul, Int.reduceToNat, Int.reduceAdd, Int.reduceLT, Int.reduceLE, Int.reduceEq, Int.reduceNeg, Int.reduceMul, Int.reduceSub, Nat.reduceSub, reduceIte, ite_true, ite_false, and_true, true_and, and_self]; rfl
  · simp (disch := omega) only [s203_0, s203_1, s203_1b, s203_4, s203_5, s203_6, s203_7, s203_8, s203_11, s203_12, s203_13, s203_13b, s203_16, s203_17, s203_18, s203_19, s203_20, s203_23, s203_24, s203_25, s203_25b, s203_28, s203_29, s203_30, s203_31, s203_34, s203_35, s203_36, s203_36b, s203_39, s203_40, s203_41, s203_42, s203_42b, s203_45, s203_46, s203_49, s203_50, s203_53, s203_54, Int.toNat_natCast, Int.toNat_natCast, Nat.reduceAdd, Nat.reduceMul, Int.reduceToNat, Int.reduceAdd, Int.reduceLT, Int.reduceLE, Int.reduceEq, Int.reduceNeg, Int.reduceMul, Int.reduceSub, Nat.reduceSub, reduceIte, ite_true, ite_false, and_true, true_and, and_self]; rfl
  · simp (disch := omega) only [s203_0, s203_1, s203_1b, s203_4, s203_5, s203_6, s203_7, s203_8, s203_11, s203_12, s203_13, s203_13b, s203_16, s203_17, s203_18, s203_19, s203_20, s203_23, s203_24, s203_25, s203_25b, s203_28, s203_29, s203_30, s203_31, s203_34, s203_35, s203_36, s203_36b, s203_39, s203_40, s203_41, s203_42, s203_42b, s203_45, s203_46, s203_49, s203_50, s203_53, s203_54, Int.toNat_natCast, Int.toNat_natCast, Nat.reduceAdd, Nat.reduceMul, Int.reduceToNat, Int.reduceAdd, Int.reduceLT, Int.reduceLE, Int.reduceEq, Int.reduceNeg, Int.reduceMul, Int.reduceSub, Nat.reduceSub, reduceIte, ite_true, ite_false, and_true, true_and, and_self]; rfl
  · by_cases c : v = 0
    · subst c
      simp (disch := omega) only [s203_0, s203_1, s203_1b, s203_4, s203_5, s203_6, s203_7, s203_8, s203_11, s203_12, s203_13, s203_13b, s203_16, s203_17, s203_18, s203_19, s203_20, s203_23, s203_24, s203_25, s203_25b, s203_28, s203_29, s203_30, s203_31, s203_34, s203_35, s203_36, s203_36b, s203_39, s203_40, s203_41, s203_42, s203_42b, s203_45, s203_46, s203_49, s203_50, s203_53, s203_54, Int.toNat_natCast, Int.toNat_natCast, Nat.reduceAdd, Nat.reduceMul, Int.reduceToNat, Int.reduceAdd, Int.reduceLT, Int.reduceLE, Int.reduceEq, Int.reduceNeg, Int.reduceMul, Int.reduceSub, Nat.reduceSub, reduceIte, ite_true, ite_false, and_true, true_and, and_self, show cmpz 0 0 = 0 from rfl]; rfl
    · have ez : ¬ cmpz v 0 = 0 := by unfold cmpz; split <;> (try split) <;> omega
      have er : -2147483648 ≤ cmpz v 0 ∧ cmpz v 0 ≤ 2147483647 := by unfold cmpz; split <;> (try split) <;> omega
      have en : nrS 4 v = 1 := by unfold nrS; rw [if_neg (by decide), if_neg (by decide), if_neg (by decide), if_neg (by decide), if_neg c]
      rw [en]
      simp (disch := omega) only [s203_0, s203_1, s203_1b, s203_4, s203_5, s203_6, s203_7, s203_8, s203_11, s203_12, s203_13, s203_13b, s203_16, s203_17, s203_18, s203_19, s203_20, s203_23, s203_24, s203_25, s203_25b, s203_28, s203_29, s203_30, s203_31, s203_34, s203_35, s203_36, s203_36b, s203_39, s203_40, s203_41, s203_42, s203_42b, s203_45, s203_46, s203_49, s203_50, s203_53, s203_54, Int.toNat_natCast, Int.toNat_natCast, Nat.reduceAdd, Nat.reduceMul, Int.reduceToNat, Int.reduceAdd, Int.reduceLT, Int.reduceLE, Int.reduceEq, Int.reduceNeg, Int.reduceMul, Int.reduceSub, Nat.reduceSub, reduceIte, ite_true, ite_false, and_true, true_and, and_self, ez]
theorem sp204 {d N L : Nat} {z i v : Int} {B : q_Bv} {G T : q_Gi} (hd : 4 ≤ d) (h : mtv G T) (ho : Tok T) (hz : -2147483648 ≤ z ∧ z ≤ 2147483647) (hi : -2147483648 ≤ i ∧ i ≤ 2147483647) (hv : lr v) : ∃ G', Sp d 204 [.ref 82, vI z, vI i, vL v] (hp N L B G) (some (vI (x91 T z i v).1)) (hp N L B G') ∧ mtv G' (x91 T z i v).2 ∧ mtf G G' := by
  have a1 := sp201 (d := d - 1) (z := z) (N := N) (L := L) (B := B) (G := G) (by omega) hz
  unfold x91
  by_cases c1 : 0 ≤ z ∧ z < 6
  · rw [bI_t c1] at a1
    rw [if_pos c1]
    obtain ⟨j, rfl⟩ : ∃ j : Nat, z = (j : Int) := ⟨z.toNat, by omega⟩
    rw [Int.toNat_natCast]
    have hj : j < 6 := by omega
    have s0 := h.1 j hj
    have l0 := h.2.1 j hj
    obtain ⟨o1, o2, o3, o4, o5⟩ := ho j hj
    by_cases c2 : T 0 j = -1
    · rw [if_pos c2]
      refine ⟨G, ?_, h, fun _ _ => rfl⟩
      refine e204 (by omega) ?_
      simp (disch := omega) only [s204_0, s204_1, s204_5, s204_5b, s204_8, s204_9, s204_10, m204_11, s204_14, m204_15, s204_16, s204_19, s204_21, s204_22, s204_23, s204_24, s204_25, m204_26, s204_29, m204_30, s204_31, s204_32, s204_36, s204_36b, s204_39, s204_41, s204_42, m204_43, s204_46, s204_48, s204_49, s204_50, s204_51, s204_52, s204_53, m204_54, s204_57, m204_58, s204_59, m204_63, s204_64, s204_65, Int.toNat_natCast, Int.toNat_natCast, Nat.reduceAdd, Nat.reduceMul, Int.reduceToNat, Int.reduceAdd, Int.reduceLT, Int.reduceLE, Int.reduceEq, Int.reduceNeg, Int.reduceMul, Int.reduceSub, Nat.reduceSub, reduceIte, ite_true, ite_false, and_true, true_and, and_self, m204_2 a1, s0, c2]
    · rw [if_neg c2]
      have c2' : ¬ T 0 j < 0 := by omega
      have a2 := sp109 (d := d - 1) (z := i) (lo := 0) (hi := T 1 j - 1) (X := hp N L B G) (by omega) hi (by omega) (by omega)
      by_cases c3 : 0 ≤ i ∧ i < T 1 j
      · rw [bI_t (show 0 ≤ i ∧ i ≤ T 1 j - 1 by omega)] at a2
        rw [if_pos c3]
        obtain ⟨k, rfl⟩ : ∃ k : Nat, i = (k : Int) := ⟨i.toNat, by omega⟩
        rw [Int.toNat_natCast]
        have hk : k < 60 := by omega
        have a3 := sp203 (d := d - 1) (s := T 0 j) (v := v) (X := hp N L B G) (by omega) (by omega) hv
        have e : (60 * (j : Int) + (k : Int)).toNat = 60 * j + k := by omega
        refine ⟨ug G 127 (60 * j + k) (nrS (T 0 j) v), ?_, ⟨fun i hi => ?_, fun i hi => ?_, fun i m hi hm => ?_⟩, fun a ha => ug_ne (by omega)⟩
        · refine e204 (by omega) ?_
          simp (disch := omega) only [s204_0, s204_1, s204_5, s204_5b, s204_8, s204_9, s204_10, m204_11, s204_14, m204_15, s204_16, s204_19, s204_21, s204_22, s204_23, s204_24, s204_25, m204_26, s204_29, m204_30, s204_31, s204_32, s204_36, s204_36b, s204_39, s204_41, s204_42, m204_43, s204_46, s204_48, s204_49, s204_50, s204_51, s204_52, s204_53, m204_54, s204_57, m204_58, s204_59, m204_63, s204_64, s204_65, Int.toNat_natCast, Int.toNat_natCast, Nat.reduceAdd, Nat.reduceMul, Int.reduceToNat, Int.reduceAdd, Int.reduceLT, Int.reduceLE, Int.reduceEq, Int.reduceNeg, Int.reduceMul, Int.reduceSub, Nat.reduceSub, reduceIte, ite_true, ite_false, and_true, true_and, and_self, m204_2 a1, s0, c2', l0, m204_33 a2, m204_60 a3, e]
        · rw [ug_ne (by omega)]
          show _ = if 0 = 2 + j ∧ i = k then _ else T 0 i
          rw [if_neg (by omega)]; exact h.1 i hi
        · rw [ug_ne (by omega)]
          show _ = if 1 = 2 + j ∧ i = k then _ else T 1 i
          rw [if_neg (by omega)]; exact h.2.1 i hi
        · show _ = if 2 + i = 2 + j ∧ m = k then nrS (T 0 j) v else T (2 + i) m
          by_cases c : i = j ∧ m = k
          · rw [c.1, c.2, ug_at, if_pos ⟨rfl, rfl⟩]
          · rw [ug_k (by omega), if_neg (by omega)]; exact h.2.2 i m hi hm
      · rw [bI_f (show ¬ (0 ≤ i ∧ i ≤ T 1 j - 1) by omega)] at a2
        rw [if_neg c3]
        refine ⟨G, ?_, h, fun _ _ => rfl⟩
        refine e204 (by omega) ?_
        simp (disch := omega) only [s204_0, s204_1, s204_5, s204_5b, s204_8, s204_9, s204_10, m204_11, s204_14, m204_15, s204_16, s204_19, s204_21, s204_22, s204_23, s204_24, s204_25, m204_26, s204_29, m204_30, s204_31, s204_32, s204_36, s204_36b, s204_39, s204_41, s204_42, m204_43, s204_46, s204_48, s204_49, s204_50, s204_51, s204_52, s204_53, m204_54, s204_57, m204_58, s204_59, m204_63, s204_64, s204_65, Int.toNat_natCast, Int.toNat_natCast, Nat.reduceAdd, Nat.reduceMul, Int.reduceToNat, Int.reduceAdd, Int.reduceLT, Int.reduceLE, Int.reduceEq, Int.reduceNeg, Int.reduceMul, Int.reduceSub, Nat.reduceSub, reduceIte, ite_true, ite_false, and_true, true_and, and_self, m204_2 a1, s0, c2', l0, m204_33 a2]
  · rw [bI_f c1] at a1
    rw [if_neg c1]
    refine ⟨G, ?_, h, fun _ _ => rfl⟩
    refine e204 (by omega) ?_
    simp (disch := omega) only [s204_0, s204_1, s204_5, s204_5b, s204_8, s204_9, s204_10, m204_11, s204_14, m204_15, s204_16, s204_19, s204_21, s204_22, s204_23, s204_24, s204_25, m204_26, s204_29, m204_30, s204_31, s204_32, s204_36, s204_36b, s204_39, s204_41, s204_42, m204_43, s204_46, s204_48, s204_49, s204_50, s204_51, s204_52, s204_53, m204_54, s204_57, m204_58, s204_59, m204_63, s204_64, s204_65, Int.toNat_natCast, Int.toNat_natCast, Nat.reduceAdd, Nat.reduceMul, Int.reduceToNat, Int.reduceAdd, Int.reduceLT, Int.reduceLE, Int.reduceEq, Int.reduceNeg, Int.reduceMul, Int.reduceSub, Nat.reduceSub, reduceIte, ite_true, ite_false, and_true, true_and, and_self, m204_2 a1]
theorem sp205 {d N L : Nat} {z i : Int} {B : q_Bv} {G T : q_Gi} (hd : 4 ≤ d) (h : mtv G T) (ho : Tok T) (hz : -2147483648 ≤ z ∧ z ≤ 2147483647) (hi : -2147483648 ≤ i ∧ i ≤ 2147483647) : Sp d 205 [.ref 82, vI z, vI i] (hp N L B G) (some (vL (r92 T z i))) (hp N L B G) := by
  have a1 := sp201 (d := d - 1) (z := z) (N := N) (L := L) (B := B) (G := G) (by omega) hz
  unfold r92
  by_cases c1 : 0 ≤ z ∧ z < 6
  · rw [bI_t c1] at a1
    obtain ⟨j, rfl⟩ : ∃ j : Nat, z = (j : Int) := ⟨z.toNat, by omega⟩
    rw [Int.toNat_natCast]
    have hj : j < 6 := by omega
    have s0 := h.1 j hj
    have l0 := h.2.1 j hj
    obtain ⟨o1, o2, o3, o4, o5⟩ := ho j hj
    by_cases c2 : T 0 j = -1
    · have := o3 c2
      rw [if_neg (by omega)]
      refine e205 (by omega) ?_
      simp (disch := omega) only [s205_0, s205_1, s205_5, s205_5b, s205_8, m205_9, s205_12, m205_13, s205_14, s205_17, s205_18, s205_19, s205_20, m205_21, s205_24, m205_25, s205_26, s205_27, s205_31, s205_31b, s205_34, s205_37, s205_40, m205_41, s205_44, s205_46, s205_47, s205_48, s205_49, m205_50, s205_51, Int.toNat_natCast, Int.toNat_natCast, Nat.reduceAdd, Nat.reduceMul, Int.reduceToNat, Int.reduceAdd, Int.reduceLT, Int.reduceLE, Int.reduceEq, Int.reduceNeg, Int.reduceMul, Int.reduceSub, Nat.reduceSub, reduceIte, ite_true, ite_false, and_true, true_and, and_self, m205_2 a1, s0, c2]
    · have c2' : ¬ T 0 j < 0 := by omega
      have a2 := sp109 (d := d - 1) (z := i) (lo := 0) (hi := T 1 j - 1) (X := hp N L B G) (by omega) hi (by omega) (by omega)
      by_cases c3 : 0 ≤ i ∧ i < T 1 j
      · rw [bI_t (show 0 ≤ i ∧ i ≤ T 1 j - 1 by omega)] at a2
        rw [if_pos ⟨c1, c3⟩]
        obtain ⟨k, rfl⟩ : ∃ k : Nat, i = (k : Int) := ⟨i.toNat, by omega⟩
        rw [Int.toNat_natCast]
        have e : (60 * (j : Int) + (k : Int)).toNat = 60 * j + k := by omega
        have w := h.2.2 j k hj (by omega)
        refine e205 (by omega) ?_
        simp (disch := omega) only [s205_0, s205_1, s205_5, s205_5b, s205_8, m205_9, s205_12, m205_13, s205_14, s205_17, s205_18, s205_19, s205_20, m205_21, s205_24, m205_25, s205_26, s205_27, s205_31, s205_31b, s205_34, s205_37, s205_40, m205_41, s205_44, s205_46, s205_47, s205_48, s205_49, m205_50, s205_51, Int.toNat_natCast, Int.toNat_natCast, Nat.reduceAdd, Nat.reduceMul, Int.reduceToNat, Int.reduceAdd, Int.reduceLT, Int.reduceLE, Int.reduceEq, Int.reduceNeg, Int.reduceMul, Int.reduceSub, Nat.reduceSub, reduceIte, ite_true, ite_false, and_true, true_and, and_self, m205_2 a1, s0, c2', l0, m205_28 a2, e, w]
      · rw [bI_f (show ¬ (0 ≤ i ∧ i ≤ T 1 j - 1) by omega)] at a2
        rw [if_neg (fun e => c3 e.2)]
        refine e205 (by omega) ?_
        simp (disch := omega) only [s205_0, s205_1, s205_5, s205_5b, s205_8, m205_9, s205_12, m205_13, s205_14, s205_17, s205_18, s205_19, s205_20, m205_21, s205_24, m205_25, s205_26, s205_27, s205_31, s205_31b, s205_34, s205_37, s205_40, m205_41, s205_44, s205_46, s205_47, s205_48, s205_49, m205_50, s205_51, Int.toNat_natCast, Int.toNat_natCast, Nat.reduceAdd, Nat.reduceMul, Int.reduceToNat, Int.reduceAdd, Int.reduceLT, Int.reduceLE, Int.reduceEq, Int.reduceNeg, Int.reduceMul, Int.reduceSub, Nat.reduceSub, reduceIte, ite_true, ite_false, and_true, true_and, and_self, m205_2 a1, s0, c2', l0, m205_28 a2]
  · rw [bI_f c1] at a1
    rw [if_neg (fun e => c1 e.1)]
    refine e205 (by omega) ?_
    simp (disch := omega) only [s205_0, s205_1, s205_5, s205_5b, s205_8, m205_9, s205_12, m205_13, s205_14, s205_17, s205_18, s205_19, s205_20, m205_21, s205_24, m205_25, s205_26, s205_27, s205_31, s205_31b, s205_34, s205_37, s205_40, m205_41, s205_44, s205_46, s205_47, s205_48, s205_49, m205_50, s205_51, Int.toNat_natCast, Int.toNat_natCast, Nat.reduceAdd, Nat.reduceMul, Int.reduceToNat, Int.reduceAdd, Int.reduceLT, Int.reduceLE, Int.reduceEq, Int.reduceNeg, Int.reduceMul, Int.reduceSub, Nat.reduceSub, reduceIte, ite_true, ite_false, and_true, true_and, and_self, m205_2 a1]
theorem lp186 {d n j N L : Nat} {the i : Int} {rc : List (Int × Int × List Int)} {B : q_Bv} {G H T : q_Gi} (hd : 4 ≤ d) (h : ms G H the rc) (hT : mtv G T) (ho : Tok T) (hj : j < 6) (h4 : T 0 j = -1 ∨ T 0 j = 4) (hn : H 0 0 = (n : Int)) (hi : -2147483648 ≤ i ∧ i ≤ 2147483647) : ∀ (m k : Nat), k + m = n → (k = 0 ∨ 0 ≤ i) → WP d 186 34 [.ref 82, vI j, vI i, vI k] [] (hp N L B G) (fun r1 X1 => r1 = some (vI (judgeS (lsR 2 rc 9) T H j i m k)) ∧ X1 = hp N L B G) := by
  have hn6 : n ≤ 6 := by have := h.2.1.1; omega
  have v0 := h.1.1
  rw [hn] at v0
  have s0 := hT.1 j hj
  have l0 := hT.2.1 j hj
  obtain ⟨o1, o2, o3, o4, o5⟩ := ho j hj
  intro m
  induction m with
  | zero =>
    intro k hk hki
    have h1 : ¬ (k : Int) < (n : Int) := by omega
    simp (disch := omega) only [s186_34, s186_35, m186_36, s186_39, s186_112, s186_114, Int.toNat_natCast, Int.toNat_natCast, Nat.reduceAdd, Nat.reduceMul, Int.reduceToNat, Int.reduceAdd, Int.reduceLT, Int.reduceLE, Int.reduceEq, Int.reduceNeg, Int.reduceMul, Int.reduceSub, Nat.reduceSub, reduceIte, ite_true, ite_false, and_true, true_and, and_self, v0, h1, judgeS]
  | succ m ih =>
    intro k hk hki
    have h1 : (k : Int) < (n : Int) := by omega
    have e0 : judgeS (lsR 2 rc 9) T H j i (m + 1) k = if 0 ≤ i + (k : Int) ∧ i + (k : Int) < T 1 j then (if (T (2 + j) (i + (k : Int)).toNat = 0 ↔ tunS (lsR 2 rc 9) H k = false) then judgeS (lsR 2 rc 9) T H j i m (k + 1) else (k : Int)) else 100 + (k : Int) := rfl
    rw [e0]
    by_cases c1 : T 0 j = -1
    · have := o3 c1
      rw [if_neg (by omega)]
      simp (disch := omega) only [s186_34, s186_35, m186_36, s186_39, s186_42, m186_43, s186_46, m186_47, s186_48, s186_51, s186_52, s186_55, s186_56, m186_57, s186_60, m186_61, s186_62, s186_63, s186_64, s186_65, s186_66, s186_69, s186_71, s186_72, s186_73, Int.toNat_natCast, Int.toNat_natCast, Nat.reduceAdd, Nat.reduceMul, Int.reduceToNat, Int.reduceAdd, Int.reduceLT, Int.reduceLE, Int.reduceEq, Int.reduceNeg, Int.reduceMul, Int.reduceSub, Nat.reduceSub, reduceIte, ite_true, ite_false, and_true, true_and, and_self, v0, h1, s0, c1]
    · have c4 : T 0 j = 4 := by omega
      by_cases c2 : i < 0
      · rw [if_neg (by omega)]
        simp (disch := omega) only [s186_34, s186_35, m186_36, s186_39, s186_42, m186_43, s186_46, m186_47, s186_48, s186_51, s186_52, s186_55, s186_56, m186_57, s186_60, m186_61, s186_62, s186_63, s186_64, s186_65, s186_66, s186_69, s186_71, s186_72, s186_73, Int.toNat_natCast, Int.toNat_natCast, Nat.reduceAdd, Nat.reduceMul, Int.reduceToNat, Int.reduceAdd, Int.reduceLT, Int.reduceLE, Int.reduceEq, Int.reduceNeg, Int.reduceMul, Int.reduceSub, Nat.reduceSub, reduceIte, ite_true, ite_false, and_true, true_and, and_self, v0, h1, s0, c4, c2]
      · by_cases c3 : i + (k : Int) < T 1 j
        · have c3' : ¬ T 1 j - (k : Int) - 1 < i := by omega
          have c3'' : i ≤ T 1 j - (k : Int) - 1 := by omega
          rw [if_pos ⟨by omega, c3⟩]
          obtain ⟨q, rfl⟩ : ∃ q : Nat, i = (q : Int) := ⟨i.toNat, by omega⟩
          have e : (60 * (j : Int) + (q : Int) + (k : Int)).toNat = 60 * j + (q + k) := by omega
          have e2 : ((q : Int) + (k : Int)).toNat = q + k := by omega
          have w := hT.2.2 j (q + k) hj (by omega)
          have w01 := o5 c4 (q + k) (by omega)
          have h148 := sp148 (d := d) (b := k) (N := N) (L := L) (B := B) (by omega) h.1 h.2.1 h.2.2.1 h.2.2.2 (by omega)
          have := ih (k + 1) (by omega) (Or.inr (by omega))
          rw [show ((k + 1 : Nat) : Int) = (k : Int) + 1 from rfl] at this
          rw [e2]
          generalize T (2 + j) (q + k) = x at w w01 ⊢
          rw [s186_34]
          cases ct : tunS (lsR 2 rc 9) H k with
          | true =>
            rw [ct, bI_t rfl] at h148
            rcases w01 with rfl | rfl
            · rw [if_neg (by decide)]
              simp (disch := omega) only [s186_35, m186_36, s186_39, s186_42, m186_43, s186_46, m186_47, s186_48, s186_51, s186_52, s186_55, s186_56, m186_57, s186_60, m186_61, s186_62, s186_63, s186_64, s186_65, s186_66, s186_69, s186_71, s186_72, s186_73, s186_74, m186_75, s186_78, s186_80, s186_81, s186_82, s186_83, s186_84, s186_85, m186_86, s186_87, s186_88, s186_92, s186_92b, s186_95, s186_96, s186_99, s186_100, s186_101, s186_101b, s186_104, s186_105, Int.toNat_natCast, Int.toNat_natCast, Nat.reduceAdd, Nat.reduceMul, Int.reduceToNat, Int.reduceAdd, Int.reduceLT, Int.reduceLE, Int.reduceEq, Int.reduceNeg, Int.reduceMul, Int.reduceSub, Nat.reduceSub, reduceIte, ite_true, ite_false, and_true, true_and, and_self, v0, h1, s0, c4, c2, l0, c3', c3'', e, w, m186_89 h148, show cmpz 0 1 = -1 from rfl]
            · rw [if_pos (by decide)]
              simp (disch := omega) only [s186_35, m186_36, s186_39, s186_42, m186_43, s186_46, m186_47, s186_48, s186_51, s186_52, s186_55, s186_56, m186_57, s186_60, m186_61, s186_62, s186_63, s186_64, s186_65, s186_66, s186_69, s186_71, s186_72, s186_73, s186_74, m186_75, s186_78, s186_80, s186_81, s186_82, s186_83, s186_84, s186_85, m186_86, s186_87, s186_88, s186_92, s186_92b, s186_95, s186_96, s186_99, s186_100, s186_101, s186_101b, s186_104, s186_105, s186_106, s186_109, Int.toNat_natCast, Int.toNat_natCast, Nat.reduceAdd, Nat.reduceMul, Int.reduceToNat, Int.reduceAdd, Int.reduceLT, Int.reduceLE, Int.reduceEq, Int.reduceNeg, Int.reduceMul, Int.reduceSub, Nat.reduceSub, reduceIte, ite_true, ite_false, and_true, true_and, and_self, v0, h1, s0, c4, c2, l0, c3', c3'', e, w, m186_89 h148, show cmpz 1 1 = 0 from rfl]
              exact this
          | false =>
            rw [ct, bI_f (by decide)] at h148
            rcases w01 with rfl | rfl
            · rw [if_pos (by decide)]
              simp (disch := omega) only [s186_35, m186_36, s186_39, s186_42, m186_43, s186_46, m186_47, s186_48, s186_51, s186_52, s186_55, s186_56, m186_57, s186_60, m186_61, s186_62, s186_63, s186_64, s186_65, s186_66, s186_69, s186_71, s186_72, s186_73, s186_74, m186_75, s186_78, s186_80, s186_81, s186_82, s186_83, s186_84, s186_85, m186_86, s186_87, s186_88, s186_92, s186_92b, s186_95, s186_96, s186_99, s186_100, s186_101, s186_101b, s186_104, s186_105, s186_106, s186_109, Int.toNat_natCast, Int.toNat_natCast, Nat.reduceAdd, Nat.reduceMul, Int.reduceToNat, Int.reduceAdd, Int.reduceLT, Int.reduceLE, Int.reduceEq, Int.reduceNeg, Int.reduceMul, Int.reduceSub, Nat.reduceSub, reduceIte, ite_true, ite_false, and_true, true_and, and_self, v0, h1, s0, c4, c2, l0, c3', c3'', e, w, m186_89 h148, show cmpz 0 0 = 0 from rfl]
              exact this
            · rw [if_neg (by decide)]
              simp (disch := omega) only [s186_35, m186_36, s186_39, s186_42, m186_43, s186_46, m186_47, s186_48, s186_51, s186_52, s186_55, s186_56, m186_57, s186_60, m186_61, s186_62, s186_63, s186_64, s186_65, s186_66, s186_69, s186_71, s186_72, s186_73, s186_74, m186_75, s186_78, s186_80, s186_81, s186_82, s186_83, s186_84, s186_85, m186_86, s186_87, s186_88, s186_92, s186_92b, s186_95, s186_96, s186_99, s186_100, s186_101, s186_101b, s186_104, s186_105, Int.toNat_natCast, Int.toNat_natCast, Nat.reduceAdd, Nat.reduceMul, Int.reduceToNat, Int.reduceAdd, Int.reduceLT, Int.reduceLE, Int.reduceEq, Int.reduceNeg, Int.reduceMul, Int.reduceSub, Nat.reduceSub, reduceIte, ite_true, ite_false, and_true, true_and, and_self, v0, h1, s0, c4, c2, l0, c3', c3'', e, w, m186_89 h148, show cmpz 1 0 = 1 from rfl]
        · have c3' : T 1 j - (k : Int) - 1 < i := by omega
          have c3'' : ¬ i ≤ T 1 j - (k : Int) - 1 := by omega
          rw [if_neg (fun e => c3 e.2)]
          simp (disch := omega) only [s186_34, s186_35, m186_36, s186_39, s186_42, m186_43, s186_46, m186_47, s186_48, s186_51, s186_52, s186_55, s186_56, m186_57, s186_60, m186_61, s186_62, s186_63, s186_64, s186_65, s186_66, s186_69, s186_71, s186_72, s186_73, Int.toNat_natCast, Int.toNat_natCast, Nat.reduceAdd, Nat.reduceMul, Int.reduceToNat, Int.reduceAdd, Int.reduceLT, Int.reduceLE, Int.reduceEq, Int.reduceNeg, Int.reduceMul, Int.reduceSub, Nat.reduceSub, reduceIte, ite_true, ite_false, and_true, true_and, and_self, v0, h1, s0, c4, c2, l0, c3', c3'']
theorem sp186 {d N L : Nat} {the z i : Int} {rc : List (Int × Int × List Int)} {B : q_Bv} {G H T : q_Gi} (hd : 6 ≤ d) (h : ms G H the rc) (hT : mtv G T) (ho : Tok T) (hz : -2147483648 ≤ z ∧ z ≤ 2147483647) (hi : -2147483648 ≤ i ∧ i ≤ 2147483647) : Sp d 186 [.ref 82, vI z, vI i] (hp N L B G) (some (vI (r83 (lsR 2 rc 9) T H z i))) (hp N L B G) := by
  have a1 := sp201 (d := d - 1) (z := z) (N := N) (L := L) (B := B) (G := G) (by omega) hz
  obtain ⟨n, hn⟩ : ∃ n : Nat, H 0 0 = (n : Int) := ⟨(H 0 0).toNat, by have := h.2.1.1; omega⟩
  unfold r83
  by_cases c1 : 0 ≤ z ∧ z < 6
  · rw [bI_t c1] at a1
    rw [if_pos c1]
    obtain ⟨j, rfl⟩ : ∃ j : Nat, z = (j : Int) := ⟨z.toNat, by omega⟩
    rw [Int.toNat_natCast, hn, Int.toNat_natCast]
    have s0 := hT.1 j (by omega)
    obtain ⟨o1, o2, o3, o4, o5⟩ := ho j (by omega)
    by_cases c2 : T 0 j = -1 ∨ T 0 j = 4
    · rw [if_pos c2]
      have := lp186 (d := d - 1) (N := N) (L := L) (B := B) (by omega) h hT ho (show j < 6 by omega) c2 hn hi n 0 (by omega) (Or.inl rfl)
      refine e186 (by omega) ?_
      rcases c2 with c2 | c2
      · simp (disch := omega) only [s186_0, s186_1, s186_5, s186_5b, s186_8, s186_9, s186_10, m186_11, s186_14, m186_15, s186_16, s186_19, m186_20, s186_23, m186_24, s186_25, s186_26, s186_26b, s186_29, s186_31, s186_32, s186_33, Int.toNat_natCast, Int.toNat_natCast, Nat.reduceAdd, Nat.reduceMul, Int.reduceToNat, Int.reduceAdd, Int.reduceLT, Int.reduceLE, Int.reduceEq, Int.reduceNeg, Int.reduceMul, Int.reduceSub, Nat.reduceSub, reduceIte, ite_true, ite_false, and_true, true_and, and_self, m186_2 a1, s0, c2]
        exact this
      · simp (disch := omega) only [s186_0, s186_1, s186_5, s186_5b, s186_8, s186_9, s186_10, m186_11, s186_14, m186_15, s186_16, s186_19, m186_20, s186_23, m186_24, s186_25, s186_26, s186_26b, s186_29, s186_31, s186_32, s186_33, Int.toNat_natCast, Int.toNat_natCast, Nat.reduceAdd, Nat.reduceMul, Int.reduceToNat, Int.reduceAdd, Int.reduceLT, Int.reduceLE, Int.reduceEq, Int.reduceNeg, Int.reduceMul, Int.reduceSub, Nat.reduceSub, reduceIte, ite_true, ite_false, and_true, true_and, and_self, m186_2 a1, s0, c2]
        exact this
    · rw [if_neg c2]
      have c3 : ¬ T 0 j < 0 := by omega
      have c4 : ¬ T 0 j = 4 := fun e => c2 (Or.inr e)
      refine e186 (by omega) ?_
      simp (disch := omega) only [s186_0, s186_1, s186_5, s186_5b, s186_8, s186_9, s186_10, m186_11, s186_14, m186_15, s186_16, s186_19, m186_20, s186_23, m186_24, s186_25, s186_26, s186_26b, s186_29, s186_31, s186_32, s186_33, Int.toNat_natCast, Int.toNat_natCast, Nat.reduceAdd, Nat.reduceMul, Int.reduceToNat, Int.reduceAdd, Int.reduceLT, Int.reduceLE, Int.reduceEq, Int.reduceNeg, Int.reduceMul, Int.reduceSub, Nat.reduceSub, reduceIte, ite_true, ite_false, and_true, true_and, and_self, m186_2 a1, s0, c3, c4]
  · rw [bI_f c1] at a1
    rw [if_neg c1]
    refine e186 (by omega) ?_
    simp (disch := omega) only [s186_0, s186_1, s186_5, s186_5b, s186_8, s186_9, s186_10, m186_11, s186_14, m186_15, s186_16, s186_19, m186_20, s186_23, m186_24, s186_25, s186_26, s186_26b, s186_29, s186_31, s186_32, s186_33, Int.toNat_natCast, Int.toNat_natCast, Nat.reduceAdd, Nat.reduceMul, Int.reduceToNat, Int.reduceAdd, Int.reduceLT, Int.reduceLE, Int.reduceEq, Int.reduceNeg, Int.reduceMul, Int.reduceSub, Nat.reduceSub, reduceIte, ite_true, ite_false, and_true, true_and, and_self, m186_2 a1]
