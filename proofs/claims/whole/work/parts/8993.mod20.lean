/-! the model: shift, feed -/
theorem lp206a {d j p o q n N L : Nat} {B : q_Bv} {G0 T : q_Gi} (hT : mtv G0 T) (hj : j < 6) (hp6 : p + n ≤ 60) {Q : Option Value → q_H → Prop} : ∀ (m k : Nat) (G : q_Gi), k + m = n → (∀ i, i < k → G 128 i = T (2 + j) (p + i)) → (∀ a, a ≠ 128 → G a = G0 a) → (∀ G' : q_Gi, (∀ i, i < n → G' 128 i = T (2 + j) (p + i)) → (∀ a, a ≠ 128 → G' a = G0 a) → WP d 206 138 [.ref 82, vI j, vI p, vI o, vI q, vI n, vI n] [] (hp N L B G') Q) → WP d 206 104 [.ref 82, vI j, vI p, vI o, vI q, vI n, vI k] [] (hp N L B G) Q := by
  intro m
  induction m with
  | zero =>
    intro k G hk hz hG hQ
    obtain rfl : k = n := by omega
    have h1 : ¬ (k : Int) < (k : Int) := by omega
    have := hQ G hz hG
    simp (disch := omega) only [s206_104, s206_106, s206_108, Int.toNat_natCast, Int.toNat_natCast, Nat.reduceAdd, Nat.reduceMul, Int.reduceToNat, Int.reduceAdd, Int.reduceLT, Int.reduceLE, Int.reduceEq, Int.reduceNeg, Int.reduceMul, Int.reduceSub, Nat.reduceSub, reduceIte, ite_true, ite_false, and_true, true_and, and_self, h1]
    exact this
  | succ m ih =>
    intro k G hk hz hG hQ
    have h1 : (k : Int) < (n : Int) := by omega
    have e : (60 * (j : Int) + (p : Int) + (k : Int)).toNat = 60 * j + (p + k) := by omega
    have w : G 127 (60 * j + (p + k)) = T (2 + j) (p + k) := by rw [hG 127 (by omega)]; exact hT.2.2 j (p + k) hj (by omega)
    have := ih (k + 1) (ug G 128 k (T (2 + j) (p + k))) (by omega) (fun i hi => by
      by_cases c : i = k
      · rw [c, ug_at]
      · rw [ug_k c]; exact hz i (by omega)) (fun a ha => by rw [ug_ne ha]; exact hG a ha) hQ
    rw [s206_104]
    simp (disch := omega) only [s206_106, s206_108, s206_111, m206_112, s206_115, s206_117, m206_118, s206_121, s206_123, s206_124, s206_125, s206_126, s206_127, s206_129, m206_130, m206_131, s206_132, s206_135, Int.toNat_natCast, Int.toNat_natCast, Nat.reduceAdd, Nat.reduceMul, Int.reduceToNat, Int.reduceAdd, Int.reduceLT, Int.reduceLE, Int.reduceEq, Int.reduceNeg, Int.reduceMul, Int.reduceSub, Nat.reduceSub, reduceIte, ite_true, ite_false, and_true, true_and, and_self, h1, e, w]
    exact this
theorem lp206b {d j p o q n N L : Nat} {B : q_Bv} {G0 : q_Gi} (ho : o < 6) (hq6 : q + n ≤ 60) {Q : Option Value → q_H → Prop} : ∀ (m k : Nat) (G : q_Gi), k + m = n → (∀ i, G 127 i = if 60 * o + q ≤ i ∧ i < 60 * o + q + k then G0 128 (i - (60 * o + q)) else G0 127 i) → (∀ a, a ≠ 127 → G a = G0 a) → (∀ G' : q_Gi, (∀ i, G' 127 i = if 60 * o + q ≤ i ∧ i < 60 * o + q + n then G0 128 (i - (60 * o + q)) else G0 127 i) → (∀ a, a ≠ 127 → G' a = G0 a) → Q (some (vI n)) (hp N L B G')) → WP d 206 141 [.ref 82, vI j, vI p, vI o, vI q, vI n, vI k] [] (hp N L B G) Q := by
  intro m
  induction m with
  | zero =>
    intro k G hk hz hG hQ
    obtain rfl : k = n := by omega
    have h1 : ¬ (k : Int) < (k : Int) := by omega
    have := hQ G hz hG
    simp (disch := omega) only [s206_141, s206_143, s206_145, s206_176, s206_178, Int.toNat_natCast, Int.toNat_natCast, Nat.reduceAdd, Nat.reduceMul, Int.reduceToNat, Int.reduceAdd, Int.reduceLT, Int.reduceLE, Int.reduceEq, Int.reduceNeg, Int.reduceMul, Int.reduceSub, Nat.reduceSub, reduceIte, ite_true, ite_false, and_true, true_and, and_self, h1]
    exact this
  | succ m ih =>
    intro k G hk hz hG hQ
    have h1 : (k : Int) < (n : Int) := by omega
    have e : (60 * (o : Int) + (q : Int) + (k : Int)).toNat = 60 * o + q + k := by omega
    have w : G 128 k = G0 128 k := by rw [hG 128 (by omega)]
    have := ih (k + 1) (ug G 127 (60 * o + q + k) (G0 128 k)) (by omega) (fun i => by
      by_cases c : i = 60 * o + q + k
      · rw [c, ug_at, if_pos (by omega), show 60 * o + q + k - (60 * o + q) = k by omega]
      · rw [ug_k c, hz i]
        by_cases c2 : 60 * o + q ≤ i ∧ i < 60 * o + q + k
        · rw [if_pos c2, if_pos (by omega)]
        · rw [if_neg c2, if_neg (by omega)]) (fun a ha => by rw [ug_ne ha]; exact hG a ha) hQ
    rw [s206_141]
    simp (disch := omega) only [s206_143, s206_145, s206_148, m206_149, s206_152, s206_154, s206_155, s206_156, s206_158, s206_159, s206_161, s206_162, m206_163, s206_166, m206_168, m206_169, s206_170, s206_173, Int.toNat_natCast, Int.toNat_natCast, Nat.reduceAdd, Nat.reduceMul, Int.reduceToNat, Int.reduceAdd, Int.reduceLT, Int.reduceLE, Int.reduceEq, Int.reduceNeg, Int.reduceMul, Int.reduceSub, Nat.reduceSub, reduceIte, ite_true, ite_false, and_true, true_and, and_self, h1, e, w]
    exact this
theorem sp206 {d N L : Nat} {z i o k n : Int} {B : q_Bv} {G T : q_Gi} (hd : 4 ≤ d) (h : mtv G T) (ho : Tok T) (hz : -2147483648 ≤ z ∧ z ≤ 2147483647) (ho2 : -2147483648 ≤ o ∧ o ≤ 2147483647) (hi : -2147483648 ≤ i ∧ i ≤ 2147483647) (hk : -2147483648 ≤ k ∧ k ≤ 2147483647) (hn : -2147483648 ≤ n ∧ n ≤ 2147483647) : ∃ G', Sp d 206 [.ref 82, vI z, vI i, vI o, vI k, vI n] (hp N L B G) (some (vI (x93 T z i o k n).1)) (hp N L B G') ∧ mtv G' (x93 T z i o k n).2 ∧ mtf G G' := by
  have a1 := sp201 (d := d - 1) (z := z) (N := N) (L := L) (B := B) (G := G) (by omega) hz
  have a2 := sp201 (d := d - 1) (z := o) (N := N) (L := L) (B := B) (G := G) (by omega) ho2
  unfold x93
  by_cases c1 : 0 ≤ z ∧ z < 6
  · rw [bI_t c1] at a1
    by_cases c2 : 0 ≤ o ∧ o < 6
    · rw [bI_t c2] at a2
      rw [if_pos ⟨c1, c2⟩]
      obtain ⟨j, rfl⟩ : ∃ j : Nat, z = (j : Int) := ⟨z.toNat, by omega⟩
      obtain ⟨p, rfl⟩ : ∃ p : Nat, o = (p : Int) := ⟨o.toNat, by omega⟩
      rw [Int.toNat_natCast, Int.toNat_natCast]
      have hj : j < 6 := by omega
      have hp6 : p < 6 := by omega
      have s1 := h.1 j hj
      have s2 := h.1 p hp6
      have l1 := h.2.1 j hj
      have l2 := h.2.1 p hp6
      obtain ⟨o1, o2, o3, o4, o5⟩ := ho j hj
      obtain ⟨p1, p2, p3, p4, p5⟩ := ho p hp6
      by_cases c3 : T 0 j = -1
      · rw [if_pos (Or.inl c3)]
        refine ⟨G, ?_, h, fun _ _ => rfl⟩
        refine e206 (by omega) ?_
        simp (disch := omega) only [s206_0, s206_1, s206_5, s206_5b, s206_8, s206_9, s206_13, s206_13b, s206_16, s206_17, s206_18, m206_19, s206_22, m206_23, s206_24, s206_27, m206_28, s206_31, m206_32, s206_33, s206_36, s206_38, Int.toNat_natCast, Int.toNat_natCast, Nat.reduceAdd, Nat.reduceMul, Int.reduceToNat, Int.reduceAdd, Int.reduceLT, Int.reduceLE, Int.reduceEq, Int.reduceNeg, Int.reduceMul, Int.reduceSub, Nat.reduceSub, reduceIte, ite_true, ite_false, and_true, true_and, and_self, m206_2 a1, m206_10 a2, s1, c3]
      have c3' : ¬ T 0 j < 0 := by omega
      by_cases c4 : T 0 p = -1
      · rw [if_pos (Or.inr c4)]
        refine ⟨G, ?_, h, fun _ _ => rfl⟩
        refine e206 (by omega) ?_
        simp (disch := omega) only [s206_0, s206_1, s206_5, s206_5b, s206_8, s206_9, s206_13, s206_13b, s206_16, s206_17, s206_18, m206_19, s206_22, m206_23, s206_24, s206_27, m206_28, s206_31, m206_32, s206_33, s206_36, s206_38, Int.toNat_natCast, Int.toNat_natCast, Nat.reduceAdd, Nat.reduceMul, Int.reduceToNat, Int.reduceAdd, Int.reduceLT, Int.reduceLE, Int.reduceEq, Int.reduceNeg, Int.reduceMul, Int.reduceSub, Nat.reduceSub, reduceIte, ite_true, ite_false, and_true, true_and, and_self, m206_2 a1, m206_10 a2, s1, c3', s2, c4]
      have c4' : ¬ T 0 p < 0 := by omega
      rw [if_neg (fun e => e.elim c3 c4)]
      by_cases c5 : T 0 j = T 0 p
      · rw [if_pos c5]
        have c5' := eq_true c5
        by_cases c6 : (0 ≤ i ∧ 0 ≤ n ∧ i ≤ T 1 j - n) ∧ (0 ≤ k ∧ 0 ≤ n ∧ k ≤ T 1 p - n)
        · rw [if_pos c6]
          obtain ⟨x, rfl⟩ : ∃ x : Nat, i = (x : Int) := ⟨i.toNat, by omega⟩
          obtain ⟨y, rfl⟩ : ∃ y : Nat, k = (y : Int) := ⟨k.toNat, by omega⟩
          obtain ⟨w, rfl⟩ : ∃ w : Nat, n = (w : Int) := ⟨n.toNat, by omega⟩
          rw [Int.toNat_natCast, Int.toNat_natCast, Int.toNat_natCast]
          have n1 : ¬ (w : Int) < 0 := by omega
          have n2 : ¬ (x : Int) < 0 := by omega
          have n3 : ¬ (y : Int) < 0 := by omega
          have n4 : ¬ T 1 j - (w : Int) < (x : Int) := by omega
          have n5 : ¬ T 1 p - (w : Int) < (y : Int) := by omega
          have n4' : (x : Int) ≤ T 1 j - (w : Int) := by omega
          have n5' : (y : Int) ≤ T 1 p - (w : Int) := by omega
          obtain ⟨r1, X1, hS, G', hr, hX, q⟩ := E206 (d := d) (X := hp N L B G) (z1 := (j : Int)) (z2 := (x : Int)) (z3 := (p : Int)) (z4 := (y : Int)) (z5 := (w : Int)) (Q := fun r1 X1 => ∃ G', r1 = some (vI (w : Int)) ∧ X1 = hp N L B G' ∧ mtv G' (shS T j x p y w) ∧ mtf G G') (by omega) (by
            simp (disch := omega) only [s206_0, s206_1, s206_5, s206_5b, s206_8, s206_9, s206_13, s206_13b, s206_16, s206_17, s206_18, m206_19, s206_22, m206_23, s206_24, s206_27, m206_28, s206_31, m206_32, s206_33, s206_36, s206_38, s206_39, m206_40, s206_43, m206_44, s206_45, m206_46, s206_49, m206_50, s206_51, s206_51b, s206_54, s206_56, s206_57, s206_59, s206_62, s206_63, s206_66, s206_68, s206_71, s206_72, m206_73, s206_76, m206_77, s206_78, s206_80, s206_81, s206_84, s206_86, m206_87, s206_90, m206_91, s206_92, s206_94, s206_95, s206_98, s206_100, s206_101, s206_102, Int.toNat_natCast, Int.toNat_natCast, Nat.reduceAdd, Nat.reduceMul, Int.reduceToNat, Int.reduceAdd, Int.reduceLT, Int.reduceLE, Int.reduceEq, Int.reduceNeg, Int.reduceMul, Int.reduceSub, Nat.reduceSub, reduceIte, ite_true, ite_false, and_true, true_and, and_self, m206_2 a1, m206_10 a2, s1, s2, c3', c4', c5', if_true, l1, l2, n1, n2, n3, n4, n5, n4', n5']
            refine lp206a (d := d - 1) (G0 := G) h hj (by omega) w 0 G (by omega) (fun i hi => absurd hi (Nat.not_lt_zero i)) (fun _ _ => rfl) (fun G1 q1 q2 => ?_)
            simp (disch := omega) only [s206_138, s206_139, Int.toNat_natCast, Int.toNat_natCast, Nat.reduceAdd, Nat.reduceMul, Int.reduceToNat, Int.reduceAdd, Int.reduceLT, Int.reduceLE, Int.reduceEq, Int.reduceNeg, Int.reduceMul, Int.reduceSub, Nat.reduceSub, reduceIte, ite_true, ite_false, and_true, true_and, and_self]
            refine lp206b (d := d - 1) (G0 := G1) hp6 (by omega) w 0 G1 (by omega) (fun i => by rw [if_neg (by omega)]) (fun _ _ => rfl) (fun G2 q3 q4 => ⟨G2, rfl, rfl, ⟨fun i hi => ?_, fun i hi => ?_, fun i m hi hm => ?_⟩, fun a ha => by rw [q4 a (by omega), q2 a (by omega)]⟩)
            · rw [q4 125 (by omega), q2 125 (by omega)]
              show _ = if 0 = 2 + p ∧ y ≤ i ∧ i < y + w then _ else T 0 i
              rw [if_neg (by omega)]; exact h.1 i hi
            · rw [q4 126 (by omega), q2 126 (by omega)]
              show _ = if 1 = 2 + p ∧ y ≤ i ∧ i < y + w then _ else T 1 i
              rw [if_neg (by omega)]; exact h.2.1 i hi
            · have er : shS T j x p y w (2 + i) m = if i = p ∧ y ≤ m ∧ m < y + w then T (2 + j) (x + (m - y)) else T (2 + i) m := by
                show (if 2 + i = 2 + p ∧ y ≤ m ∧ m < y + w then T (2 + j) (x + (m - y)) else T (2 + i) m) = _
                by_cases c : i = p ∧ y ≤ m ∧ m < y + w
                · rw [if_pos c, if_pos (by omega)]
                · rw [if_neg c, if_neg (by omega)]
              rw [er, q3]
              by_cases c : i = p ∧ y ≤ m ∧ m < y + w
              · rw [if_pos c, if_pos (by omega), q1 _ (by omega), show 60 * i + m - (60 * p + y) = m - y by omega]
              · rw [if_neg c, if_neg (by omega), q2 127 (by omega)]; exact h.2.2 i m hi hm)
          exact ⟨G', by rw [hr, hX] at hS; exact hS, q⟩
        · rw [if_neg c6]
          refine ⟨G, ?_, h, fun _ _ => rfl⟩
          refine e206 (by omega) ?_
          by_cases n1 : n < 0
          · simp (disch := omega) only [s206_0, s206_1, s206_5, s206_5b, s206_8, s206_9, s206_13, s206_13b, s206_16, s206_17, s206_18, m206_19, s206_22, m206_23, s206_24, s206_27, m206_28, s206_31, m206_32, s206_33, s206_36, s206_38, s206_39, m206_40, s206_43, m206_44, s206_45, m206_46, s206_49, m206_50, s206_51, s206_51b, s206_54, s206_56, s206_57, s206_59, s206_62, s206_63, s206_66, s206_68, s206_71, s206_72, m206_73, s206_76, m206_77, s206_78, s206_80, s206_81, s206_84, s206_86, m206_87, s206_90, m206_91, s206_92, s206_94, s206_95, s206_98, s206_100, Int.toNat_natCast, Int.toNat_natCast, Nat.reduceAdd, Nat.reduceMul, Int.reduceToNat, Int.reduceAdd, Int.reduceLT, Int.reduceLE, Int.reduceEq, Int.reduceNeg, Int.reduceMul, Int.reduceSub, Nat.reduceSub, reduceIte, ite_true, ite_false, and_true, true_and, and_self, m206_2 a1, m206_10 a2, s1, s2, c3', c4', c5', if_true, n1]
          by_cases n2 : i < 0
          · simp (disch := omega) only [s206_0, s206_1, s206_5, s206_5b, s206_8, s206_9, s206_13, s206_13b, s206_16, s206_17, s206_18, m206_19, s206_22, m206_23, s206_24, s206_27, m206_28, s206_31, m206_32, s206_33, s206_36, s206_38, s206_39, m206_40, s206_43, m206_44, s206_45, m206_46, s206_49, m206_50, s206_51, s206_51b, s206_54, s206_56, s206_57, s206_59, s206_62, s206_63, s206_66, s206_68, s206_71, s206_72, m206_73, s206_76, m206_77, s206_78, s206_80, s206_81, s206_84, s206_86, m206_87, s206_90, m206_91, s206_92, s206_94, s206_95, s206_98, s206_100, Int.toNat_natCast, Int.toNat_natCast, Nat.reduceAdd, Nat.reduceMul, Int.reduceToNat, Int.reduceAdd, Int.reduceLT, Int.reduceLE, Int.reduceEq, Int.reduceNeg, Int.reduceMul, Int.reduceSub, Nat.reduceSub, reduceIte, ite_true, ite_false, and_true, true_and, and_self, m206_2 a1, m206_10 a2, s1, s2, c3', c4', c5', if_true, n1, n2]
          by_cases n3 : k < 0
          · simp (disch := omega) only [s206_0, s206_1, s206_5, s206_5b, s206_8, s206_9, s206_13, s206_13b, s206_16, s206_17, s206_18, m206_19, s206_22, m206_23, s206_24, s206_27, m206_28, s206_31, m206_32, s206_33, s206_36, s206_38, s206_39, m206_40, s206_43, m206_44, s206_45, m206_46, s206_49, m206_50, s206_51, s206_51b, s206_54, s206_56, s206_57, s206_59, s206_62, s206_63, s206_66, s206_68, s206_71, s206_72, m206_73, s206_76, m206_77, s206_78, s206_80, s206_81, s206_84, s206_86, m206_87, s206_90, m206_91, s206_92, s206_94, s206_95, s206_98, s206_100, Int.toNat_natCast, Int.toNat_natCast, Nat.reduceAdd, Nat.reduceMul, Int.reduceToNat, Int.reduceAdd, Int.reduceLT, Int.reduceLE, Int.reduceEq, Int.reduceNeg, Int.reduceMul, Int.reduceSub, Nat.reduceSub, reduceIte, ite_true, ite_false, and_true, true_and, and_self, m206_2 a1, m206_10 a2, s1, s2, c3', c4', c5', if_true, n1, n2, n3]
          by_cases n4 : T 1 j - n < i
          · have n4' : ¬ i ≤ T 1 j - n := by omega
            simp (disch := omega) only [s206_0, s206_1, s206_5, s206_5b, s206_8, s206_9, s206_13, s206_13b, s206_16, s206_17, s206_18, m206_19, s206_22, m206_23, s206_24, s206_27, m206_28, s206_31, m206_32, s206_33, s206_36, s206_38, s206_39, m206_40, s206_43, m206_44, s206_45, m206_46, s206_49, m206_50, s206_51, s206_51b, s206_54, s206_56, s206_57, s206_59, s206_62, s206_63, s206_66, s206_68, s206_71, s206_72, m206_73, s206_76, m206_77, s206_78, s206_80, s206_81, s206_84, s206_86, m206_87, s206_90, m206_91, s206_92, s206_94, s206_95, s206_98, s206_100, Int.toNat_natCast, Int.toNat_natCast, Nat.reduceAdd, Nat.reduceMul, Int.reduceToNat, Int.reduceAdd, Int.reduceLT, Int.reduceLE, Int.reduceEq, Int.reduceNeg, Int.reduceMul, Int.reduceSub, Nat.reduceSub, reduceIte, ite_true, ite_false, and_true, true_and, and_self, m206_2 a1, m206_10 a2, s1, s2, c3', c4', c5', if_true, n1, n2, n3, l1, n4, n4']
          · have n5 : T 1 p - n < k := by omega
            have n5' : ¬ k ≤ T 1 p - n := by omega
            have n4' : i ≤ T 1 j - n := by omega
            simp (disch := omega) only [s206_0, s206_1, s206_5, s206_5b, s206_8, s206_9, s206_13, s206_13b, s206_16, s206_17, s206_18, m206_19, s206_22, m206_23, s206_24, s206_27, m206_28, s206_31, m206_32, s206_33, s206_36, s206_38, s206_39, m206_40, s206_43, m206_44, s206_45, m206_46, s206_49, m206_50, s206_51, s206_51b, s206_54, s206_56, s206_57, s206_59, s206_62, s206_63, s206_66, s206_68, s206_71, s206_72, m206_73, s206_76, m206_77, s206_78, s206_80, s206_81, s206_84, s206_86, m206_87, s206_90, m206_91, s206_92, s206_94, s206_95, s206_98, s206_100, Int.toNat_natCast, Int.toNat_natCast, Nat.reduceAdd, Nat.reduceMul, Int.reduceToNat, Int.reduceAdd, Int.reduceLT, Int.reduceLE, Int.reduceEq, Int.reduceNeg, Int.reduceMul, Int.reduceSub, Nat.reduceSub, reduceIte, ite_true, ite_false, and_true, true_and, and_self, m206_2 a1, m206_10 a2, s1, s2, c3', c4', c5', if_true, n1, n2, n3, l1, n4, n4', l2, n5, n5']
      · rw [if_neg c5]
        have c5' := eq_false c5
        refine ⟨G, ?_, h, fun _ _ => rfl⟩
        refine e206 (by omega) ?_
        simp (disch := omega) only [s206_0, s206_1, s206_5, s206_5b, s206_8, s206_9, s206_13, s206_13b, s206_16, s206_17, s206_18, m206_19, s206_22, m206_23, s206_24, s206_27, m206_28, s206_31, m206_32, s206_33, s206_36, s206_38, s206_39, m206_40, s206_43, m206_44, s206_45, m206_46, s206_49, m206_50, s206_51, s206_51b, s206_54, s206_56, Int.toNat_natCast, Int.toNat_natCast, Nat.reduceAdd, Nat.reduceMul, Int.reduceToNat, Int.reduceAdd, Int.reduceLT, Int.reduceLE, Int.reduceEq, Int.reduceNeg, Int.reduceMul, Int.reduceSub, Nat.reduceSub, reduceIte, ite_true, ite_false, and_true, true_and, and_self, m206_2 a1, m206_10 a2, s1, s2, c3', c4', c5', if_false]
    · rw [bI_f c2] at a2
      rw [if_neg (fun e => c2 e.2)]
      refine ⟨G, ?_, h, fun _ _ => rfl⟩
      refine e206 (by omega) ?_
      simp (disch := omega) only [s206_0, s206_1, s206_5, s206_5b, s206_8, s206_9, s206_13, s206_13b, s206_16, s206_17, Int.toNat_natCast, Int.toNat_natCast, Nat.reduceAdd, Nat.reduceMul, Int.reduceToNat, Int.reduceAdd, Int.reduceLT, Int.reduceLE, Int.reduceEq, Int.reduceNeg, Int.reduceMul, Int.reduceSub, Nat.reduceSub, reduceIte, ite_true, ite_false, and_true, true_and, and_self, m206_2 a1, m206_10 a2]
  · rw [bI_f c1] at a1
    rw [if_neg (fun e => c1 e.1)]
    refine ⟨G, ?_, h, fun _ _ => rfl⟩
    refine e206 (by omega) ?_
    simp (disch := omega) only [s206_0, s206_1, s206_5, s206_5b, s206_8, s206_9, s206_13, s206_13b, s206_16, s206_17, Int.toNat_natCast, Int.toNat_natCast, Nat.reduceAdd, Nat.reduceMul, Int.reduceToNat, Int.reduceAdd, Int.reduceLT, Int.reduceLE, Int.reduceEq, Int.reduceNeg, Int.reduceMul, Int.reduceSub, Nat.reduceSub, reduceIte, ite_true, ite_false, and_true, true_and, and_self, m206_2 a1]
/-- n bytes lie in the model -/
def mrd (G : q_Gi) (n : Nat) (nx : Nat → Int) : Prop := G 82 10 = (n : Int) ∧ n ≤ 100 ∧ (∀ j, j < n → G 88 j = nx j) ∧ txt nx n
theorem sp121 {d n N L : Nat} {s : Int} {B : q_Bv} {G : q_Gi} {nx : Nat → Int} (hd : 4 ≤ d) (h : mrd G n nx) (hs : -2147483648 ≤ s ∧ s ≤ 2147483647) : ∃ G', Sp d 121 [.ref 82, vI s] (hp N L B G) (some (vI (feedS n s))) (hp N L B G') ∧ (∀ nx', txt nx' (feedN n s) → (∀ j, j < feedN n s → nx' j = if j < n then nx j else s) → mrd G' (feedN n s) nx') ∧ (∀ a, a ≠ 82 → a ≠ 88 → G' a = G a) ∧ ∀ k, k ≠ 10 → G' 82 k = G 82 k := by
  obtain ⟨m0, m1, m2, m3⟩ := h
  have a1 := sp109 (d := d - 1) (z := s) (lo := 0) (hi := 127) (X := hp N L B G) (by omega) hs (by omega) (by omega)
  unfold feedS feedN
  by_cases c1 : 0 ≤ s ∧ s ≤ 127
  · rw [bI_t c1] at a1
    rw [if_pos c1, if_pos c1]
    by_cases c2 : n < 100
    · rw [if_pos c2, if_pos c2]
      have c2' : ¬ (n : Int) = 100 := by omega
      refine ⟨ug (ug G 88 n s) 82 10 ((n : Int) + 1), ?_, fun nx' ht hx => ⟨by rw [ug_at]; rfl, by omega, fun j hj => ?_, ht⟩, fun a x y => by rw [ug_ne x, ug_ne y], fun k hk => by rw [ug_k hk, ug_ne (by omega)]⟩
      · refine e121 (by omega) ?_
        simp (disch := omega) only [s121_0, s121_1, s121_2, s121_3, s121_8, s121_8b, s121_11, s121_13, s121_14, m121_15, s121_18, s121_20, s121_20b, s121_23, s121_25, s121_26, m121_27, s121_30, m121_31, s121_34, m121_35, s121_36, s121_37, m121_38, s121_41, s121_42, m121_43, s121_46, m121_47, s121_50, Int.toNat_natCast, Int.toNat_natCast, Nat.reduceAdd, Nat.reduceMul, Int.reduceToNat, Int.reduceAdd, Int.reduceLT, Int.reduceLE, Int.reduceEq, Int.reduceNeg, Int.reduceMul, Int.reduceSub, Nat.reduceSub, reduceIte, ite_true, ite_false, and_true, true_and, and_self, m121_5 a1, m0, c2', ug_ne, ug_at]
      · rw [hx j hj, ug_ne (by omega)]
        by_cases e : j = n
        · rw [e, ug_at, if_neg (by omega)]
        · rw [ug_k e, if_pos (by omega)]; exact m2 j (by omega)
    · rw [if_neg c2, if_neg c2]
      obtain rfl : n = 100 := by omega
      refine ⟨G, ?_, fun nx' ht hx => ⟨m0, m1, fun j hj => by rw [hx j hj, if_pos hj]; exact m2 j hj, ht⟩, fun _ _ _ => rfl, fun _ _ => rfl⟩
      refine e121 (by omega) ?_
      simp (disch := omega) only [s121_0, s121_1, s121_2, s121_3, s121_8, s121_8b, s121_11, s121_13, s121_14, m121_15, s121_18, s121_20, s121_20b, s121_23, s121_25, s121_26, m121_27, s121_30, m121_31, s121_34, m121_35, s121_36, s121_37, m121_38, s121_41, s121_42, m121_43, s121_46, m121_47, s121_50, Int.toNat_natCast, Int.toNat_natCast, Nat.reduceAdd, Nat.reduceMul, Int.reduceToNat, Int.reduceAdd, Int.reduceLT, Int.reduceLE, Int.reduceEq, Int.reduceNeg, Int.reduceMul, Int.reduceSub, Nat.reduceSub, reduceIte, ite_true, ite_false, and_true, true_and, and_self, m121_5 a1, m0, show ((100 : Nat) : Int) = 100 from rfl]
  · rw [bI_f c1] at a1
    rw [if_neg c1, if_neg c1]
    refine ⟨G, ?_, fun nx' ht hx => ⟨m0, m1, fun j hj => by rw [hx j hj, if_pos hj]; exact m2 j hj, ht⟩, fun _ _ _ => rfl, fun _ _ => rfl⟩
    refine e121 (by omega) ?_
    simp (disch := omega) only [s121_0, s121_1, s121_2, s121_3, s121_8, s121_8b, s121_11, s121_13, s121_14, m121_15, s121_18, s121_20, s121_20b, s121_23, s121_25, s121_26, m121_27, s121_30, m121_31, s121_34, m121_35, s121_36, s121_37, m121_38, s121_41, s121_42, m121_43, s121_46, m121_47, s121_50, Int.toNat_natCast, Int.toNat_natCast, Nat.reduceAdd, Nat.reduceMul, Int.reduceToNat, Int.reduceAdd, Int.reduceLT, Int.reduceLE, Int.reduceEq, Int.reduceNeg, Int.reduceMul, Int.reduceSub, Nat.reduceSub, reduceIte, ite_true, ite_false, and_true, true_and, and_self, m121_5 a1]
