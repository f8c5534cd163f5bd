/-! tapes T: 0 the sorts (-1 none), 1 the lengths, 2 + j the items of the tape j -/
theorem i32_r (x : Int32) : -2147483648 ≤ x.toInt ∧ x.toInt ≤ 2147483647 := by have := Int32.le_toInt x; have := Int32.toInt_lt x; omega
theorem i64_r (x : Int64) : -9223372036854775808 ≤ x.toInt ∧ x.toInt ≤ 9223372036854775807 := by have := Int64.le_toInt x; have := Int64.toInt_lt x; omega
def lr (z : Int) : Prop := -9223372036854775808 ≤ z ∧ z ≤ 9223372036854775807
def nrS (s z : Int) : Int := if s = 0 then i2b (l2i z) else if s = 1 then i2s (l2i z) else if s = 2 then l2i z else if s = 3 then z else if z = 0 then 0 else 1
theorem nrS_r {s z : Int} (h : lr z) : lr (nrS s z) := by
  unfold nrS lr
  unfold lr at h
  have h1 := i32_r ((Int32.ofInt (l2i z)).toInt8.toInt32)
  have h2 := i32_r ((Int32.ofInt (l2i z)).toInt16.toInt32)
  have h3 := i32_r ((Int64.ofInt z).toInt32)
  have e1 : i2b (l2i z) = ((Int32.ofInt (l2i z)).toInt8.toInt32).toInt := rfl
  have e2 : i2s (l2i z) = ((Int32.ofInt (l2i z)).toInt16.toInt32).toInt := rfl
  have e3 : l2i z = ((Int64.ofInt z).toInt32).toInt := rfl
  (repeat' split) <;> omega
def Tok (T : q_Gi) : Prop := ∀ j, j < 6 → (-1 ≤ T 0 j ∧ T 0 j ≤ 4) ∧ (0 ≤ T 1 j ∧ T 1 j ≤ 60) ∧ (T 0 j = -1 → T 1 j = 0) ∧ (∀ k, k < 60 → lr (T (2 + j) k)) ∧ (T 0 j = 4 → ∀ k, k < 60 → T (2 + j) k = 0 ∨ T (2 + j) k = 1)
def tv0 (G T : q_Gi) : Prop := G 66 0 = T 0 0 ∧ G 66 1 = T 1 0 ∧ (∀ k, k < 60 → G 67 k = T 2 k)
theorem tv0_f {G G' T T' : q_Gi} (h : tv0 G T) (e : ∀ a, 66 ≤ a → a ≤ 67 → G' a = G a) (e0 : T' 0 0 = T 0 0) (e1 : T' 1 0 = T 1 0) (e2 : ∀ k, k < 60 → T' 2 k = T 2 k) : tv0 G' T' := by
  obtain ⟨a0, a1, a2⟩ := h
  refine ⟨?_, ?_, fun k hk => ?_⟩
  · rw [e _ (by omega) (by omega), e0]; exact a0
  · rw [e _ (by omega) (by omega), e1]; exact a1
  · rw [e _ (by omega) (by omega), e2 k hk]; exact a2 k hk
def tv1 (G T : q_Gi) : Prop := G 68 0 = T 0 1 ∧ G 68 1 = T 1 1 ∧ (∀ k, k < 60 → G 69 k = T 3 k)
theorem tv1_f {G G' T T' : q_Gi} (h : tv1 G T) (e : ∀ a, 68 ≤ a → a ≤ 69 → G' a = G a) (e0 : T' 0 1 = T 0 1) (e1 : T' 1 1 = T 1 1) (e2 : ∀ k, k < 60 → T' 3 k = T 3 k) : tv1 G' T' := by
  obtain ⟨a0, a1, a2⟩ := h
  refine ⟨?_, ?_, fun k hk => ?_⟩
  · rw [e _ (by omega) (by omega), e0]; exact a0
  · rw [e _ (by omega) (by omega), e1]; exact a1
  · rw [e _ (by omega) (by omega), e2 k hk]; exact a2 k hk
def tv2 (G T : q_Gi) : Prop := G 70 0 = T 0 2 ∧ G 70 1 = T 1 2 ∧ (∀ k, k < 60 → G 71 k = T 4 k)
theorem tv2_f {G G' T T' : q_Gi} (h : tv2 G T) (e : ∀ a, 70 ≤ a → a ≤ 71 → G' a = G a) (e0 : T' 0 2 = T 0 2) (e1 : T' 1 2 = T 1 2) (e2 : ∀ k, k < 60 → T' 4 k = T 4 k) : tv2 G' T' := by
  obtain ⟨a0, a1, a2⟩ := h
  refine ⟨?_, ?_, fun k hk => ?_⟩
  · rw [e _ (by omega) (by omega), e0]; exact a0
  · rw [e _ (by omega) (by omega), e1]; exact a1
  · rw [e _ (by omega) (by omega), e2 k hk]; exact a2 k hk
def tv3 (G T : q_Gi) : Prop := G 72 0 = T 0 3 ∧ G 72 1 = T 1 3 ∧ (∀ k, k < 60 → G 73 k = T 5 k)
theorem tv3_f {G G' T T' : q_Gi} (h : tv3 G T) (e : ∀ a, 72 ≤ a → a ≤ 73 → G' a = G a) (e0 : T' 0 3 = T 0 3) (e1 : T' 1 3 = T 1 3) (e2 : ∀ k, k < 60 → T' 5 k = T 5 k) : tv3 G' T' := by
  obtain ⟨a0, a1, a2⟩ := h
  refine ⟨?_, ?_, fun k hk => ?_⟩
  · rw [e _ (by omega) (by omega), e0]; exact a0
  · rw [e _ (by omega) (by omega), e1]; exact a1
  · rw [e _ (by omega) (by omega), e2 k hk]; exact a2 k hk
def tv4 (G T : q_Gi) : Prop := G 74 0 = T 0 4 ∧ G 74 1 = T 1 4 ∧ (∀ k, k < 60 → G 75 k = T 6 k)
theorem tv4_f {G G' T T' : q_Gi} (h : tv4 G T) (e : ∀ a, 74 ≤ a → a ≤ 75 → G' a = G a) (e0 : T' 0 4 = T 0 4) (e1 : T' 1 4 = T 1 4) (e2 : ∀ k, k < 60 → T' 6 k = T 6 k) : tv4 G' T' := by
  obtain ⟨a0, a1, a2⟩ := h
  refine ⟨?_, ?_, fun k hk => ?_⟩
  · rw [e _ (by omega) (by omega), e0]; exact a0
  · rw [e _ (by omega) (by omega), e1]; exact a1
  · rw [e _ (by omega) (by omega), e2 k hk]; exact a2 k hk
def tv5 (G T : q_Gi) : Prop := G 76 0 = T 0 5 ∧ G 76 1 = T 1 5 ∧ (∀ k, k < 60 → G 77 k = T 7 k)
theorem tv5_f {G G' T T' : q_Gi} (h : tv5 G T) (e : ∀ a, 76 ≤ a → a ≤ 77 → G' a = G a) (e0 : T' 0 5 = T 0 5) (e1 : T' 1 5 = T 1 5) (e2 : ∀ k, k < 60 → T' 7 k = T 7 k) : tv5 G' T' := by
  obtain ⟨a0, a1, a2⟩ := h
  refine ⟨?_, ?_, fun k hk => ?_⟩
  · rw [e _ (by omega) (by omega), e0]; exact a0
  · rw [e _ (by omega) (by omega), e1]; exact a1
  · rw [e _ (by omega) (by omega), e2 k hk]; exact a2 k hk
def tv (G T : q_Gi) : Prop := tv0 G T ∧ tv1 G T ∧ tv2 G T ∧ tv3 G T ∧ tv4 G T ∧ tv5 G T
theorem tv_f {G G' T : q_Gi} (h : tv G T) (e : ∀ a, 66 ≤ a → a ≤ 77 → G' a = G a) : tv G' T := ⟨tv0_f h.1 (fun a _ _ => e a (by omega) (by omega)) rfl rfl (fun _ _ => rfl), tv1_f h.2.1 (fun a _ _ => e a (by omega) (by omega)) rfl rfl (fun _ _ => rfl), tv2_f h.2.2.1 (fun a _ _ => e a (by omega) (by omega)) rfl rfl (fun _ _ => rfl), tv3_f h.2.2.2.1 (fun a _ _ => e a (by omega) (by omega)) rfl rfl (fun _ _ => rfl), tv4_f h.2.2.2.2.1 (fun a _ _ => e a (by omega) (by omega)) rfl rfl (fun _ _ => rfl), tv5_f h.2.2.2.2.2 (fun a _ _ => e a (by omega) (by omega)) rfl rfl (fun _ _ => rfl)⟩
def becS (T : q_Gi) (j : Nat) (s n : Int) : q_Gi := fun f k => if f = 0 ∧ k = j then s else if f = 1 ∧ k = j then n else if f = 2 + j then 0 else T f k
def itS (T : q_Gi) (j k : Nat) (z : Int) : q_Gi := fun f i => if f = 2 + j ∧ i = k then z else T f i
theorem tv_upd0 {G G' T T' : q_Gi} (h : tv G T) (own : tv0 G' T') (e : ∀ a, a ≠ 66 → a ≠ 67 → G' a = G a) (e0 : ∀ i, i ≠ 0 → T' 0 i = T 0 i ∧ T' 1 i = T 1 i ∧ ∀ k, k < 60 → T' (2 + i) k = T (2 + i) k) : tv G' T' := by
  obtain ⟨h0, h1, h2, h3, h4, h5⟩ := h
  refine ⟨?_, ?_, ?_, ?_, ?_, ?_⟩
  · first | exact own | exact tv0_f h0 (fun a _ _ => e a (by omega) (by omega)) (e0 0 (by omega)).1 (e0 0 (by omega)).2.1 (e0 0 (by omega)).2.2
  · first | exact own | exact tv1_f h1 (fun a _ _ => e a (by omega) (by omega)) (e0 1 (by omega)).1 (e0 1 (by omega)).2.1 (e0 1 (by omega)).2.2
  · first | exact own | exact tv2_f h2 (fun a _ _ => e a (by omega) (by omega)) (e0 2 (by omega)).1 (e0 2 (by omega)).2.1 (e0 2 (by omega)).2.2
  · first | exact own | exact tv3_f h3 (fun a _ _ => e a (by omega) (by omega)) (e0 3 (by omega)).1 (e0 3 (by omega)).2.1 (e0 3 (by omega)).2.2
  · first | exact own | exact tv4_f h4 (fun a _ _ => e a (by omega) (by omega)) (e0 4 (by omega)).1 (e0 4 (by omega)).2.1 (e0 4 (by omega)).2.2
  · first | exact own | exact tv5_f h5 (fun a _ _ => e a (by omega) (by omega)) (e0 5 (by omega)).1 (e0 5 (by omega)).2.1 (e0 5 (by omega)).2.2
theorem lp219_0 {d N L : Nat} {B : q_Bv} {G : q_Gi} {Q : Option Value → q_H → Prop} (hQ : ∀ G', (∀ a, a ≠ 67 → G' a = G a) → (∀ k, k < 60 → G' 67 k = 0) → Q none (hp N L B G')) : ∀ (m k : Nat) (G' : q_Gi), k + m = 60 → (∀ a, a ≠ 67 → G' a = G a) → (∀ i, i < k → G' 67 i = 0) → WP d 219 6 [.ref 67, vL 0, .null, vI k, vI 60] [] (hp N L B G') Q := by
  intro m
  induction m with
  | zero =>
    intro k G' hk hf hz
    have hk4 : k = 60 := by omega
    subst hk4
    have := hQ G' hf hz
    simp (disch := omega) only [s219_6, s219_7, s219_9, s219_22, Int.toNat_natCast, Int.toNat_natCast, Nat.reduceAdd, Nat.reduceMul, Int.reduceToNat, Int.reduceAdd, Int.reduceLT, Int.reduceLE, Int.reduceEq, Int.reduceNeg, Int.reduceMul, Int.reduceSub, Nat.reduceSub, reduceIte, ite_true, ite_false, and_true, true_and, and_self, show ((60 : Nat) : Int) = 60 from rfl]
    exact this
  | succ m ih =>
    intro k G' hk hf hz
    have hlt : ((k : Int) < 60) := by omega
    have := ih (k + 1) (ug G' 67 k 0) (by omega) (fun a ha => by rw [ug_ne ha]; exact hf a ha) (fun i hi => by
      by_cases e : i = k
      · rw [e, ug_at]
      · rw [ug_k e]; exact hz i (by omega))
    rw [show ((k + 1 : Nat) : Int) = (k : Int) + 1 from rfl] at this
    rw [s219_6]
    simp (disch := omega) only [s219_7, s219_9, s219_12, s219_13, s219_14, m219_15_67, m219_15_69, m219_15_71, m219_15_73, m219_15_75, m219_15_77, s219_16, s219_19, Int.toNat_natCast, Int.toNat_natCast, Nat.reduceAdd, Nat.reduceMul, Int.reduceToNat, Int.reduceAdd, Int.reduceLT, Int.reduceLE, Int.reduceEq, Int.reduceNeg, Int.reduceMul, Int.reduceSub, Nat.reduceSub, reduceIte, ite_true, ite_false, and_true, true_and, and_self, hlt]
    exact this
theorem sp41_0 {d N L : Nat} {s n : Int} {B : q_Bv} {G T : q_Gi} (hd : 2 ≤ d) (h : tv G T) : ∃ G', Sp d 41 [.ref 66, vI s, vI n] (hp N L B G) none (hp N L B G') ∧ tv G' (becS T 0 s n) ∧ ∀ a, (a < 66 ∨ 77 < a) → G' a = G a := by
  obtain ⟨r1, X1, hS1, G1, hr1, hX1, hf1, hz1⟩ := E219 (d := d - 1) (X := hp N L B (ug (ug G 66 0 s) 66 1 n)) (a1 := 67) (z2 := 0) (Q := fun r X => ∃ G', r = none ∧ X = hp N L B G' ∧ (∀ a, a ≠ 67 → G' a = ug (ug G 66 0 s) 66 1 n a) ∧ (∀ k, k < 60 → G' 67 k = 0)) (by omega) (by
    have lp := lp219_0 (d := d - 1 - 1) (N := N) (L := L) (B := B) (G := ug (ug G 66 0 s) 66 1 n) (Q := fun r X => ∃ G', r = none ∧ X = hp N L B G' ∧ (∀ a, a ≠ 67 → G' a = ug (ug G 66 0 s) 66 1 n a) ∧ (∀ k, k < 60 → G' 67 k = 0)) (fun G' a b => ⟨G', rfl, rfl, a, b⟩) 60 0 _ (by omega) (fun _ _ => rfl) (fun i hi => by omega)
    simp (disch := omega) only [s219_0, s219_1, s219_2, m219_3_67, m219_3_69, m219_3_71, m219_3_73, m219_3_75, m219_3_77, s219_4, Int.toNat_natCast, Int.toNat_natCast, Nat.reduceAdd, Nat.reduceMul, Int.reduceToNat, Int.reduceAdd, Int.reduceLT, Int.reduceLE, Int.reduceEq, Int.reduceNeg, Int.reduceMul, Int.reduceSub, Nat.reduceSub, reduceIte, ite_true, ite_false, and_true, true_and, and_self]
    exact lp)
  rw [hr1, hX1] at hS1
  refine ⟨G1, ?_, ?_, ?_⟩
  · refine e41 (by omega) ?_
    simp (disch := omega) only [s41_0, s41_1, m41_2_66, m41_2_68, m41_2_70, m41_2_72, m41_2_74, m41_2_76, s41_5, s41_6, m41_7_66, m41_7_68, m41_7_70, m41_7_72, m41_7_74, m41_7_76, s41_10, m41_11_66, m41_11_68, m41_11_70, m41_11_72, m41_11_74, m41_11_76, s41_14, s41_18, Int.toNat_natCast, Int.toNat_natCast, Nat.reduceAdd, Nat.reduceMul, Int.reduceToNat, Int.reduceAdd, Int.reduceLT, Int.reduceLE, Int.reduceEq, Int.reduceNeg, Int.reduceMul, Int.reduceSub, Nat.reduceSub, reduceIte, ite_true, ite_false, and_true, true_and, and_self, c41_15 (by rfl) hS1]
  · refine tv_upd0 h ⟨?_, ?_, ?_⟩ (fun a h1 h2 => by rw [hf1 a h2, ug_ne h1, ug_ne h1]) (fun i hi => ⟨?_, ?_, ?_⟩)
    · rw [hf1 _ (by omega), ug_k (by omega), ug_at]; rfl
    · rw [hf1 _ (by omega), ug_at]; rfl
    · intro k hk; rw [hz1 k hk]; rfl
    · unfold becS; rw [if_neg (by omega), if_neg (by omega), if_neg (by omega)]
    · unfold becS; rw [if_neg (by omega), if_neg (by omega), if_neg (by omega)]
    · intro k hk; unfold becS; rw [if_neg (by omega), if_neg (by omega), if_neg (by omega)]
  · intro a ha
    rw [hf1 a (by omega), ug_ne (by omega), ug_ne (by omega)]
theorem sp42_0 {d N L : Nat} {z : Int} {B : q_Bv} {G T : q_Gi} (hd : 1 ≤ d) (h : tv G T) (ho : Tok T) (hz : -2147483648 ≤ z ∧ z ≤ 2147483647) : Sp d 42 [.ref 66, vI z] (hp N L B G) (some (vI (bI (0 ≤ z ∧ z < T 1 0)))) (hp N L B G) := by
  have o1 := (ho 0 (by omega)).2.1
  obtain ⟨h0, h1, h2, h3, h4, h5⟩ := h
  refine e42 (by omega) ?_
  simp (disch := omega) only [s42_0, s42_1, s42_4, s42_5, m42_6_66, m42_6_68, m42_6_70, m42_6_72, m42_6_74, m42_6_76, s42_9, s42_12, s42_13, s42_16, s42_17, s42_17b, Int.toNat_natCast, Int.toNat_natCast, Nat.reduceAdd, Nat.reduceMul, Int.reduceToNat, Int.reduceAdd, Int.reduceLT, Int.reduceLE, Int.reduceEq, Int.reduceNeg, Int.reduceMul, Int.reduceSub, Nat.reduceSub, reduceIte, ite_true, ite_false, and_true, true_and, and_self, h0.2.1]
  repeat' split
  all_goals first | rw [bI_t (by omega)] | rw [bI_f (by omega)]
theorem sp43_0 {d N L : Nat} {z n : Int} {B : q_Bv} {G T : q_Gi} (hd : 1 ≤ d) (h : tv G T) (ho : Tok T) (hz : -2147483648 ≤ z ∧ z ≤ 2147483647) (hn : -2147483648 ≤ n ∧ n ≤ 2147483647) : Sp d 43 [.ref 66, vI z, vI n] (hp N L B G) (some (vI (bI (0 ≤ z ∧ 0 ≤ n ∧ z ≤ T 1 0 - n)))) (hp N L B G) := by
  have o1 := (ho 0 (by omega)).2.1
  obtain ⟨h0, h1, h2, h3, h4, h5⟩ := h
  refine e43 (by omega) ?_
  by_cases c1 : z < 0
  · simp (disch := omega) only [s43_0, s43_1, s43_4, s43_5, s43_8, s43_9, m43_10_66, m43_10_68, m43_10_70, m43_10_72, m43_10_74, m43_10_76, s43_13, s43_14, s43_15, s43_18, s43_19, s43_22, s43_23, s43_23b, Int.toNat_natCast, Int.toNat_natCast, Nat.reduceAdd, Nat.reduceMul, Int.reduceToNat, Int.reduceAdd, Int.reduceLT, Int.reduceLE, Int.reduceEq, Int.reduceNeg, Int.reduceMul, Int.reduceSub, Nat.reduceSub, reduceIte, ite_true, ite_false, and_true, true_and, and_self, c1]
    rw [bI_f (by omega)]
  · by_cases c2 : n < 0
    · simp (disch := omega) only [s43_0, s43_1, s43_4, s43_5, s43_8, s43_9, m43_10_66, m43_10_68, m43_10_70, m43_10_72, m43_10_74, m43_10_76, s43_13, s43_14, s43_15, s43_18, s43_19, s43_22, s43_23, s43_23b, Int.toNat_natCast, Int.toNat_natCast, Nat.reduceAdd, Nat.reduceMul, Int.reduceToNat, Int.reduceAdd, Int.reduceLT, Int.reduceLE, Int.reduceEq, Int.reduceNeg, Int.reduceMul, Int.reduceSub, Nat.reduceSub, reduceIte, ite_true, ite_false, and_true, true_and, and_self, c1, c2]
      rw [bI_f (by omega)]
    · simp (disch := omega) only [s43_0, s43_1, s43_4, s43_5, s43_8, s43_9, m43_10_66, m43_10_68, m43_10_70, m43_10_72, m43_10_74, m43_10_76, s43_13, s43_14, s43_15, s43_18, s43_19, s43_22, s43_23, s43_23b, Int.toNat_natCast, Int.toNat_natCast, Nat.reduceAdd, Nat.reduceMul, Int.reduceToNat, Int.reduceAdd, Int.reduceLT, Int.reduceLE, Int.reduceEq, Int.reduceNeg, Int.reduceMul, Int.reduceSub, Nat.reduceSub, reduceIte, ite_true, ite_false, and_true, true_and, and_self, c1, c2, h0.2.1]
      repeat' split
      all_goals first | rw [bI_t (by omega)] | rw [bI_f (by omega)]
theorem sp44_0 {d N L : Nat} {z : Int} {B : q_Bv} {G T : q_Gi} (hd : 1 ≤ d) (h : tv G T) (ho : Tok T) (hz : lr z) : Sp d 44 [.ref 66, vL z] (hp N L B G) (some (vL (nrS (T 0 0) z))) (hp N L B G) := by
  have o1 := (ho 0 (by omega)).1
  obtain ⟨h0, h1, h2, h3, h4, h5⟩ := h
  have r1 := i32_r ((Int32.ofInt (l2i z)).toInt8.toInt32)
  have r2 := i32_r ((Int32.ofInt (l2i z)).toInt16.toInt32)
  have r3 := i32_r ((Int64.ofInt z).toInt32)
  change -2147483648 ≤ i2b (l2i z) ∧ i2b (l2i z) ≤ 2147483647 at r1
  change -2147483648 ≤ i2s (l2i z) ∧ i2s (l2i z) ≤ 2147483647 at r2
  change -2147483648 ≤ l2i z ∧ l2i z ≤ 2147483647 at r3
  have hz' : -9223372036854775808 ≤ z ∧ z ≤ 9223372036854775807 := hz
  refine e44 (by omega) ?_
  have o2 : T 0 0 = 0 ∨ T 0 0 = 1 ∨ T 0 0 = 2 ∨ T 0 0 = 3 ∨ (¬ T 0 0 = 0 ∧ ¬ T 0 0 = 1 ∧ ¬ T 0 0 = 2 ∧ ¬ T 0 0 = 3) := by omega
  rcases o2 with o2 | o2 | o2 | o2 | ⟨n0, n1, n2, n3⟩
  · simp (disch := first | omega | assumption) only [s44_0, m44_1_66, m44_1_68, m44_1_70, m44_1_72, m44_1_74, m44_1_76, s44_4, s44_36, s44_37, s44_38, s44_39, s44_40, s44_41, s44_42, s44_43, s44_44, s44_45, s44_46, s44_47, s44_48, s44_49, s44_50, s44_51, s44_52, s44_53, s44_54, s44_55, s44_55b, s44_58, s44_59, s44_62, s44_63, Int.toNat_natCast, Int.toNat_natCast, Nat.reduceAdd, Nat.reduceMul, Int.reduceToNat, Int.reduceAdd, Int.reduceLT, Int.reduceLE, Int.reduceEq, Int.reduceNeg, Int.reduceMul, Int.reduceSub, Nat.reduceSub, reduceIte, ite_true, ite_false, and_true, true_and, and_self, h0.1, o2, nrS]
  · simp (disch := first | omega | assumption) only [s44_0, m44_1_66, m44_1_68, m44_1_70, m44_1_72, m44_1_74, m44_1_76, s44_4, s44_36, s44_37, s44_38, s44_39, s44_40, s44_41, s44_42, s44_43, s44_44, s44_45, s44_46, s44_47, s44_48, s44_49, s44_50, s44_51, s44_52, s44_53, s44_54, s44_55, s44_55b, s44_58, s44_59, s44_62, s44_63, Int.toNat_natCast, Int.toNat_natCast, Nat.reduceAdd, Nat.reduceMul, Int.reduceToNat, Int.reduceAdd, Int.reduceLT, Int.reduceLE, Int.reduceEq, Int.reduceNeg, Int.reduceMul, Int.reduceSub, Nat.reduceSub, reduceIte, ite_true, ite_false, and_true, true_and, and_self, h0.1, o2, nrS]
  · simp (disch := first | omega | assumption) only [s44_0, m44_1_66, m44_1_68, m44_1_70, m44_1_72, m44_1_74, m44_1_76, s44_4, s44_36, s44_37, s44_38, s44_39, s44_40, s44_41, s44_42, s44_43, s44_44, s44_45, s44_46, s44_47, s44_48, s44_49, s44_50, s44_51, s44_52, s44_53, s44_54, s44_55, s44_55b, s44_58, s44_59, s44_62, s44_63, Int.toNat_natCast, Int.toNat_natCast, Nat.reduceAdd, Nat.reduceMul, Int.reduceToNat, Int.reduceAdd, Int.reduceLT, Int.reduceLE, Int.reduceEq, Int.reduceNeg, Int.reduceMul, Int.reduceSub, Nat.reduceSub, reduceIte, ite_true, ite_false, and_true, true_and, and_self, h0.1, o2, nrS]
  · simp (disch := first | omega | assumption) only [s44_0, m44_1_66, m44_1_68, m44_1_70, m44_1_72, m44_1_74, m44_1_76, s44_4, s44_36, s44_37, s44_38, s44_39, s44_40, s44_41, s44_42, s44_43, s44_44, s44_45, s44_46, s44_47, s44_48, s44_49, s44_50, s44_51, s44_52, s44_53, s44_54, s44_55, s44_55b, s44_58, s44_59, s44_62, s44_63, Int.toNat_natCast, Int.toNat_natCast, Nat.reduceAdd, Nat.reduceMul, Int.reduceToNat, Int.reduceAdd, Int.reduceLT, Int.reduceLE, Int.reduceEq, Int.reduceNeg, Int.reduceMul, Int.reduceSub, Nat.reduceSub, reduceIte, ite_true, ite_false, and_true, true_and, and_self, h0.1, o2, nrS]
  · have e0 : cmpz z 0 = 0 ↔ z = 0 := by
      unfold cmpz
      (repeat' split) <;> omega
    have e1 : -2147483648 ≤ cmpz z 0 ∧ cmpz z 0 ≤ 2147483647 := by
      unfold cmpz
      (repeat' split) <;> omega
    simp (disch := first | omega | assumption) only [s44_0, m44_1_66, m44_1_68, m44_1_70, m44_1_72, m44_1_74, m44_1_76, s44_4, s44_36, s44_37, s44_38, s44_39, s44_40, s44_41, s44_42, s44_43, s44_44, s44_45, s44_46, s44_47, s44_48, s44_49, s44_50, s44_51, s44_52, s44_53, s44_54, s44_55, s44_55b, s44_58, s44_59, s44_62, s44_63, Int.toNat_natCast, Int.toNat_natCast, Nat.reduceAdd, Nat.reduceMul, Int.reduceToNat, Int.reduceAdd, Int.reduceLT, Int.reduceLE, Int.reduceEq, Int.reduceNeg, Int.reduceMul, Int.reduceSub, Nat.reduceSub, reduceIte, ite_true, ite_false, and_true, true_and, and_self, h0.1, n0, n1, n2, n3, nrS, e0]
    by_cases c : z = 0
    · rw [if_pos c, if_pos c]
    · rw [if_neg c, if_neg c]
theorem tv_upd1 {G G' T T' : q_Gi} (h : tv G T) (own : tv1 G' T') (e : ∀ a, a ≠ 68 → a ≠ 69 → G' a = G a) (e0 : ∀ i, i ≠ 1 → T' 0 i = T 0 i ∧ T' 1 i = T 1 i ∧ ∀ k, k < 60 → T' (2 + i) k = T (2 + i) k) : tv G' T' := by
  obtain ⟨h0, h1, h2, h3, h4, h5⟩ := h
  refine ⟨?_, ?_, ?_, ?_, ?_, ?_⟩
  · first | exact own | exact tv0_f h0 (fun a _ _ => e a (by omega) (by omega)) (e0 0 (by omega)).1 (e0 0 (by omega)).2.1 (e0 0 (by omega)).2.2
  · first | exact own | exact tv1_f h1 (fun a _ _ => e a (by omega) (by omega)) (e0 1 (by omega)).1 (e0 1 (by omega)).2.1 (e0 1 (by omega)).2.2
  · first | exact own | exact tv2_f h2 (fun a _ _ => e a (by omega) (by omega)) (e0 2 (by omega)).1 (e0 2 (by omega)).2.1 (e0 2 (by omega)).2.2
  · first | exact own | exact tv3_f h3 (fun a _ _ => e a (by omega) (by omega)) (e0 3 (by omega)).1 (e0 3 (by omega)).2.1 (e0 3 (by omega)).2.2
  · first | exact own | exact tv4_f h4 (fun a _ _ => e a (by omega) (by omega)) (e0 4 (by omega)).1 (e0 4 (by omega)).2.1 (e0 4 (by omega)).2.2
  · first | exact own | exact tv5_f h5 (fun a _ _ => e a (by omega) (by omega)) (e0 5 (by omega)).1 (e0 5 (by omega)).2.1 (e0 5 (by omega)).2.2
theorem lp219_1 {d N L : Nat} {B : q_Bv} {G : q_Gi} {Q : Option Value → q_H → Prop} (hQ : ∀ G', (∀ a, a ≠ 69 → G' a = G a) → (∀ k, k < 60 → G' 69 k = 0) → Q none (hp N L B G')) : ∀ (m k : Nat) (G' : q_Gi), k + m = 60 → (∀ a, a ≠ 69 → G' a = G a) → (∀ i, i < k → G' 69 i = 0) → WP d 219 6 [.ref 69, vL 0, .null, vI k, vI 60] [] (hp N L B G') Q := by
  intro m
  induction m with
  | zero =>
    intro k G' hk hf hz
    have hk4 : k = 60 := by omega
    subst hk4
    have := hQ G' hf hz
    simp (disch := omega) only [s219_6, s219_7, s219_9, s219_22, Int.toNat_natCast, Int.toNat_natCast, Nat.reduceAdd, Nat.reduceMul, Int.reduceToNat, Int.reduceAdd, Int.reduceLT, Int.reduceLE, Int.reduceEq, Int.reduceNeg, Int.reduceMul, Int.reduceSub, Nat.reduceSub, reduceIte, ite_true, ite_false, and_true, true_and, and_self, show ((60 : Nat) : Int) = 60 from rfl]
    exact this
  | succ m ih =>
    intro k G' hk hf hz
    have hlt : ((k : Int) < 60) := by omega
    have := ih (k + 1) (ug G' 69 k 0) (by omega) (fun a ha => by rw [ug_ne ha]; exact hf a ha) (fun i hi => by
      by_cases e : i = k
      · rw [e, ug_at]
      · rw [ug_k e]; exact hz i (by omega))
    rw [show ((k + 1 : Nat) : Int) = (k : Int) + 1 from rfl] at this
    rw [s219_6]
    simp (disch := omega) only [s219_7, s219_9, s219_12, s219_13, s219_14, m219_15_67, m219_15_69, m219_15_71, m219_15_73, m219_15_75, m219_15_77, s219_16, s219_19, Int.toNat_natCast, Int.toNat_natCast, Nat.reduceAdd, Nat.reduceMul, Int.reduceToNat, Int.reduceAdd, Int.reduceLT, Int.reduceLE, Int.reduceEq, Int.reduceNeg, Int.reduceMul, Int.reduceSub, Nat.reduceSub, reduceIte, ite_true, ite_false, and_true, true_and, and_self, hlt]
    exact this
theorem sp41_1 {d N L : Nat} {s n : Int} {B : q_Bv} {G T : q_Gi} (hd : 2 ≤ d) (h : tv G T) : ∃ G', Sp d 41 [.ref 68, vI s, vI n] (hp N L B G) none (hp N L B G') ∧ tv G' (becS T 1 s n) ∧ ∀ a, (a < 66 ∨ 77 < a) → G' a = G a := by
  obtain ⟨r1, X1, hS1, G1, hr1, hX1, hf1, hz1⟩ := E219 (d := d - 1) (X := hp N L B (ug (ug G 68 0 s) 68 1 n)) (a1 := 69) (z2 := 0) (Q := fun r X => ∃ G', r = none ∧ X = hp N L B G' ∧ (∀ a, a ≠ 69 → G' a = ug (ug G 68 0 s) 68 1 n a) ∧ (∀ k, k < 60 → G' 69 k = 0)) (by omega) (by
    have lp := lp219_1 (d := d - 1 - 1) (N := N) (L := L) (B := B) (G := ug (ug G 68 0 s) 68 1 n) (Q := fun r X => ∃ G', r = none ∧ X = hp N L B G' ∧ (∀ a, a ≠ 69 → G' a = ug (ug G 68 0 s) 68 1 n a) ∧ (∀ k, k < 60 → G' 69 k = 0)) (fun G' a b => ⟨G', rfl, rfl, a, b⟩) 60 0 _ (by omega) (fun _ _ => rfl) (fun i hi => by omega)
    simp (disch := omega) only [s219_0, s219_1, s219_2, m219_3_67, m219_3_69, m219_3_71, m219_3_73, m219_3_75, m219_3_77, s219_4, Int.toNat_natCast, Int.toNat_natCast, Nat.reduceAdd, Nat.reduceMul, Int.reduceToNat, Int.reduceAdd, Int.reduceLT, Int.reduceLE, Int.reduceEq, Int.reduceNeg, Int.reduceMul, Int.reduceSub, Nat.reduceSub, reduceIte, ite_true, ite_false, and_true, true_and, and_self]
    exact lp)
  rw [hr1, hX1] at hS1
  refine ⟨G1, ?_, ?_, ?_⟩
  · refine e41 (by omega) ?_
    simp (disch := omega) only [s41_0, s41_1, m41_2_66, m41_2_68, m41_2_70, m41_2_72, m41_2_74, m41_2_76, s41_5, s41_6, m41_7_66, m41_7_68, m41_7_70, m41_7_72, m41_7_74, m41_7_76, s41_10, m41_11_66, m41_11_68, m41_11_70, m41_11_72, m41_11_74, m41_11_76, s41_14, s41_18, Int.toNat_natCast, Int.toNat_natCast, Nat.reduceAdd, Nat.reduceMul, Int.reduceToNat, Int.reduceAdd, Int.reduceLT, Int.reduceLE, Int.reduceEq, Int.reduceNeg, Int.reduceMul, Int.reduceSub, Nat.reduceSub, reduceIte, ite_true, ite_false, and_true, true_and, and_self, c41_15 (by rfl) hS1]
  · refine tv_upd1 h ⟨?_, ?_, ?_⟩ (fun a h1 h2 => by rw [hf1 a h2, ug_ne h1, ug_ne h1]) (fun i hi => ⟨?_, ?_, ?_⟩)
    · rw [hf1 _ (by omega), ug_k (by omega), ug_at]; rfl
    · rw [hf1 _ (by omega), ug_at]; rfl
    · intro k hk; rw [hz1 k hk]; rfl
    · unfold becS; rw [if_neg (by omega), if_neg (by omega), if_neg (by omega)]
    · unfold becS; rw [if_neg (by omega), if_neg (by omega), if_neg (by omega)]
    · intro k hk; unfold becS; rw [if_neg (by omega), if_neg (by omega), if_neg (by omega)]
  · intro a ha
    rw [hf1 a (by omega), ug_ne (by omega), ug_ne (by omega)]
theorem sp42_1 {d N L : Nat} {z : Int} {B : q_Bv} {G T : q_Gi} (hd : 1 ≤ d) (h : tv G T) (ho : Tok T) (hz : -2147483648 ≤ z ∧ z ≤ 2147483647) : Sp d 42 [.ref 68, vI z] (hp N L B G) (some (vI (bI (0 ≤ z ∧ z < T 1 1)))) (hp N L B G) := by
  have o1 := (ho 1 (by omega)).2.1
  obtain ⟨h0, h1, h2, h3, h4, h5⟩ := h
  refine e42 (by omega) ?_
  simp (disch := omega) only [s42_0, s42_1, s42_4, s42_5, m42_6_66, m42_6_68, m42_6_70, m42_6_72, m42_6_74, m42_6_76, s42_9, s42_12, s42_13, s42_16, s42_17, s42_17b, Int.toNat_natCast, Int.toNat_natCast, Nat.reduceAdd, Nat.reduceMul, Int.reduceToNat, Int.reduceAdd, Int.reduceLT, Int.reduceLE, Int.reduceEq, Int.reduceNeg, Int.reduceMul, Int.reduceSub, Nat.reduceSub, reduceIte, ite_true, ite_false, and_true, true_and, and_self, h1.2.1]
  repeat' split
  all_goals first | rw [bI_t (by omega)] | rw [bI_f (by omega)]
theorem sp43_1 {d N L : Nat} {z n : Int} {B : q_Bv} {G T : q_Gi} (hd : 1 ≤ d) (h : tv G T) (ho : Tok T) (hz : -2147483648 ≤ z ∧ z ≤ 2147483647) (hn : -2147483648 ≤ n ∧ n ≤ 2147483647) : Sp d 43 [.ref 68, vI z, vI n] (hp N L B G) (some (vI (bI (0 ≤ z ∧ 0 ≤ n ∧ z ≤ T 1 1 - n)))) (hp N L B G) := by
  have o1 := (ho 1 (by omega)).2.1
  obtain ⟨h0, h1, h2, h3, h4, h5⟩ := h
  refine e43 (by omega) ?_
  by_cases c1 : z < 0
  · simp (disch := omega) only [s43_0, s43_1, s43_4, s43_5, s43_8, s43_9, m43_10_66, m43_10_68, m43_10_70, m43_10_72, m43_10_74, m43_10_76, s43_13, s43_14, s43_15, s43_18, s43_19, s43_22, s43_23, s43_23b, Int.toNat_natCast, Int.toNat_natCast, Nat.reduceAdd, Nat.reduceMul, Int.reduceToNat, Int.reduceAdd, Int.reduceLT, Int.reduceLE, Int.reduceEq, Int.reduceNeg, Int.reduceMul, Int.reduceSub, Nat.reduceSub, reduceIte, ite_true, ite_false, and_true, true_and, and_self, c1]
    rw [bI_f (by omega)]
  · by_cases c2 : n < 0
    · simp (disch := omega) only [s43_0, s43_1, s43_4, s43_5, s43_8, s43_9, m43_10_66, m43_10_68, m43_10_70, m43_10_72, m43_10_74, m43_10_76, s43_13, s43_14, s43_15, s43_18, s43_19, s43_22, s43_23, s43_23b, Int.toNat_natCast, Int.toNat_natCast, Nat.reduceAdd, Nat.reduceMul, Int.reduceToNat, Int.reduceAdd, Int.reduceLT, Int.reduceLE, Int.reduceEq, Int.reduceNeg, Int.reduceMul, Int.reduceSub, Nat.reduceSub, reduceIte, ite_true, ite_false, and_true, true_and, and_self, c1, c2]
      rw [bI_f (by omega)]
    · simp (disch := omega) only [s43_0, s43_1, s43_4, s43_5, s43_8, s43_9, m43_10_66, m43_10_68, m43_10_70, m43_10_72, m43_10_74, m43_10_76, s43_13, s43_14, s43_15, s43_18, s43_19, s43_22, s43_23, s43_23b, Int.toNat_natCast, Int.toNat_natCast, Nat.reduceAdd, Nat.reduceMul, Int.reduceToNat, Int.reduceAdd, Int.reduceLT, Int.reduceLE, Int.reduceEq, Int.reduceNeg, Int.reduceMul, Int.reduceSub, Nat.reduceSub, reduceIte, ite_true, ite_false, and_true, true_and, and_self, c1, c2, h1.2.1]
      repeat' split
      all_goals first | rw [bI_t (by omega)] | rw [bI_f (by omega)]
theorem sp44_1 {d N L : Nat} {z : Int} {B : q_Bv} {G T : q_Gi} (hd : 1 ≤ d) (h : tv G T) (ho : Tok T) (hz : lr z) : Sp d 44 [.ref 68, vL z] (hp N L B G) (some (vL (nrS (T 0 1) z))) (hp N L B G) := by
  have o1 := (ho 1 (by omega)).1
  obtain ⟨h0, h1, h2, h3, h4, h5⟩ := h
  have r1 := i32_r ((Int32.ofInt (l2i z)).toInt8.toInt32)
  have r2 := i32_r ((Int32.ofInt (l2i z)).toInt16.toInt32)
  have r3 := i32_r ((Int64.ofInt z).toInt32)
  change -2147483648 ≤ i2b (l2i z) ∧ i2b (l2i z) ≤ 2147483647 at r1
  change -2147483648 ≤ i2s (l2i z) ∧ i2s (l2i z) ≤ 2147483647 at r2
  change -2147483648 ≤ l2i z ∧ l2i z ≤ 2147483647 at r3
  have hz' : -9223372036854775808 ≤ z ∧ z ≤ 9223372036854775807 := hz
  refine e44 (by omega) ?_
  have o2 : T 0 1 = 0 ∨ T 0 1 = 1 ∨ T 0 1 = 2 ∨ T 0 1 = 3 ∨ (¬ T 0 1 = 0 ∧ ¬ T 0 1 = 1 ∧ ¬ T 0 1 = 2 ∧ ¬ T 0 1 = 3) := by omega
  rcases o2 with o2 | o2 | o2 | o2 | ⟨n0, n1, n2, n3⟩
  · simp (disch := first | omega | assumption) only [s44_0, m44_1_66, m44_1_68, m44_1_70, m44_1_72, m44_1_74, m44_1_76, s44_4, s44_36, s44_37, s44_38, s44_39, s44_40, s44_41, s44_42, s44_43, s44_44, s44_45, s44_46, s44_47, s44_48, s44_49, s44_50, s44_51, s44_52, s44_53, s44_54, s44_55, s44_55b, s44_58, s44_59, s44_62, s44_63, Int.toNat_natCast, Int.toNat_natCast, Nat.reduceAdd, Nat.reduceMul, Int.reduceToNat, Int.reduceAdd, Int.reduceLT, Int.reduceLE, Int.reduceEq, Int.reduceNeg, Int.reduceMul, Int.reduceSub, Nat.reduceSub, reduceIte, ite_true, ite_false, and_true, true_and, and_self, h1.1, o2, nrS]
  · simp (disch := first | omega | assumption) only [s44_0, m44_1_66, m44_1_68, m44_1_70, m44_1_72, m44_1_74, m44_1_76, s44_4, s44_36, s44_37, s44_38, s44_39, s44_40, s44_41, s44_42, s44_43, s44_44, s44_45, s44_46, s44_47, s44_48, s44_49, s44_50, s44_51, s44_52, s44_53, s44_54, s44_55, s44_55b, s44_58, s44_59, s44_62, s44_63, Int.toNat_natCast, Int.toNat_natCast, Nat.reduceAdd, Nat.reduceMul, Int.reduceToNat, Int.reduceAdd, Int.reduceLT, Int.reduceLE, Int.reduceEq, Int.reduceNeg, Int.reduceMul, Int.reduceSub, Nat.reduceSub, reduceIte, ite_true, ite_false, and_true, true_and, and_self, h1.1, o2, nrS]
  · simp (disch := first | omega | assumption) only [s44_0, m44_1_66, m44_1_68, m44_1_70, m44_1_72, m44_1_74, m44_1_76, s44_4, s44_36, s44_37, s44_38, s44_39, s44_40, s44_41, s44_42, s44_43, s44_44, s44_45, s44_46, s44_47, s44_48, s44_49, s44_50, s44_51, s44_52, s44_53, s44_54, s44_55, s44_55b, s44_58, s44_59, s44_62, s44_63, Int.toNat_natCast, Int.toNat_natCast, Nat.reduceAdd, Nat.reduceMul, Int.reduceToNat, Int.reduceAdd, Int.reduceLT, Int.reduceLE, Int.reduceEq, Int.reduceNeg, Int.reduceMul, Int.reduceSub, Nat.reduceSub, reduceIte, ite_true, ite_false, and_true, true_and, and_self, h1.1, o2, nrS]
  · simp (disch := first | omega | assumption) only [s44_0, m44_1_66, m44_1_68, m44_1_70, m44_1_72, m44_1_74, m44_1_76, s44_4, s44_36, s44_37, s44_38, s44_39, s44_40, s44_41, s44_42, s44_43, s44_44, s44_45, s44_46, s44_47, s44_48, s44_49, s44_50, s44_51, s44_52, s44_53, s44_54, s44_55, s44_55b, s44_58, s44_59, s44_62, s44_63, Int.toNat_natCast, Int.toNat_natCast, Nat.reduceAdd, Nat.reduceMul, Int.reduceToNat, Int.reduceAdd, Int.reduceLT, Int.reduceLE, Int.reduceEq, Int.reduceNeg, Int.reduceMul, Int.reduceSub, Nat.reduceSub, reduceIte, ite_true, ite_false, and_true, true_and, and_self, h1.1, o2, nrS]
  · have e0 : cmpz z 0 = 0 ↔ z = 0 := by
      unfold cmpz
      (repeat' split) <;> omega
    have e1 : -2147483648 ≤ cmpz z 0 ∧ cmpz z 0 ≤ 2147483647 := by
      unfold cmpz
      (repeat' split) <;> omega
    simp (disch := first | omega | assumption) only [s44_0, m44_1_66, m44_1_68, m44_1_70, m44_1_72, m44_1_74, m44_1_76, s44_4, s44_36, s44_37, s44_38, s44_39, s44_40, s44_41, s44_42, s44_43, s44_44, s44_45, s44_46, s44_47, s44_48, s44_49, s44_50, s44_51, s44_52, s44_53, s44_54, s44_55, s44_55b, s44_58, s44_59, s44_62, s44_63, Int.toNat_natCast, Int.toNat_natCast, Nat.reduceAdd, Nat.reduceMul, Int.reduceToNat, Int.reduceAdd, Int.reduceLT, Int.reduceLE, Int.reduceEq, Int.reduceNeg, Int.reduceMul, Int.reduceSub, Nat.reduceSub, reduceIte, ite_true, ite_false, and_true, true_and, and_self, h1.1, n0, n1, n2, n3, nrS, e0]
    by_cases c : z = 0
    · rw [if_pos c, if_pos c]
    · rw [if_neg c, if_neg c]
theorem tv_upd2 {G G' T T' : q_Gi} (h : tv G T) (own : tv2 G' T') (e : ∀ a, a ≠ 70 → a ≠ 71 → G' a = G a) (e0 : ∀ i, i ≠ 2 → T' 0 i = T 0 i ∧ T' 1 i = T 1 i ∧ ∀ k, k < 60 → T' (2 + i) k = T (2 + i) k) : tv G' T' := by
  obtain ⟨h0, h1, h2, h3, h4, h5⟩ := h
  refine ⟨?_, ?_, ?_, ?_, ?_, ?_⟩
  · first | exact own | exact tv0_f h0 (fun a _ _ => e a (by omega) (by omega)) (e0 0 (by omega)).1 (e0 0 (by omega)).2.1 (e0 0 (by omega)).2.2
  · first | exact own | exact tv1_f h1 (fun a _ _ => e a (by omega) (by omega)) (e0 1 (by omega)).1 (e0 1 (by omega)).2.1 (e0 1 (by omega)).2.2
  · first | exact own | exact tv2_f h2 (fun a _ _ => e a (by omega) (by omega)) (e0 2 (by omega)).1 (e0 2 (by omega)).2.1 (e0 2 (by omega)).2.2
  · first | exact own | exact tv3_f h3 (fun a _ _ => e a (by omega) (by omega)) (e0 3 (by omega)).1 (e0 3 (by omega)).2.1 (e0 3 (by omega)).2.2
  · first | exact own | exact tv4_f h4 (fun a _ _ => e a (by omega) (by omega)) (e0 4 (by omega)).1 (e0 4 (by omega)).2.1 (e0 4 (by omega)).2.2
  · first | exact own | exact tv5_f h5 (fun a _ _ => e a (by omega) (by omega)) (e0 5 (by omega)).1 (e0 5 (by omega)).2.1 (e0 5 (by omega)).2.2
theorem lp219_2 {d N L : Nat} {B : q_Bv} {G : q_Gi} {Q : Option Value → q_H → Prop} (hQ : ∀ G', (∀ a, a ≠ 71 → G' a = G a) → (∀ k, k < 60 → G' 71 k = 0) → Q none (hp N L B G')) : ∀ (m k : Nat) (G' : q_Gi), k + m = 60 → (∀ a, a ≠ 71 → G' a = G a) → (∀ i, i < k → G' 71 i = 0) → WP d 219 6 [.ref 71, vL 0, .null, vI k, vI 60] [] (hp N L B G') Q := by
  intro m
  induction m with
  | zero =>
    intro k G' hk hf hz
    have hk4 : k = 60 := by omega
    subst hk4
    have := hQ G' hf hz
    simp (disch := omega) only [s219_6, s219_7, s219_9, s219_22, Int.toNat_natCast, Int.toNat_natCast, Nat.reduceAdd, Nat.reduceMul, Int.reduceToNat, Int.reduceAdd, Int.reduceLT, Int.reduceLE, Int.reduceEq, Int.reduceNeg, Int.reduceMul, Int.reduceSub, Nat.reduceSub, reduceIte, ite_true, ite_false, and_true, true_and, and_self, show ((60 : Nat) : Int) = 60 from rfl]
    exact this
  | succ m ih =>
    intro k G' hk hf hz
    have hlt : ((k : Int) < 60) := by omega
    have := ih (k + 1) (ug G' 71 k 0) (by omega) (fun a ha => by rw [ug_ne ha]; exact hf a ha) (fun i hi => by
      by_cases e : i = k
      · rw [e, ug_at]
      · rw [ug_k e]; exact hz i (by omega))
    rw [show ((k + 1 : Nat) : Int) = (k : Int) + 1 from rfl] at this
    rw [s219_6]
    simp (disch := omega) only [s219_7, s219_9, s219_12, s219_13, s219_14, m219_15_67, m219_15_69, m219_15_71, m219_15_73, m219_15_75, m219_15_77, s219_16, s219_19, Int.toNat_natCast, Int.toNat_natCast, Nat.reduceAdd, Nat.reduceMul, Int.reduceToNat, Int.reduceAdd, Int.reduceLT, Int.reduceLE, Int.reduceEq, Int.reduceNeg, Int.reduceMul, Int.reduceSub, Nat.reduceSub, reduceIte, ite_true, ite_false, and_true, true_and, and_self, hlt]
    exact this
theorem sp41_2 {d N L : Nat} {s n : Int} {B : q_Bv} {G T : q_Gi} (hd : 2 ≤ d) (h : tv G T) : ∃ G', Sp d 41 [.ref 70, vI s, vI n] (hp N L B G) none (hp N L B G') ∧ tv G' (becS T 2 s n) ∧ ∀ a, (a < 66 ∨ 77 < a) → G' a = G a := by
  obtain ⟨r1, X1, hS1, G1, hr1, hX1, hf1, hz1⟩ := E219 (d := d - 1) (X := hp N L B (ug (ug G 70 0 s) 70 1 n)) (a1 := 71) (z2 := 0) (Q := fun r X => ∃ G', r = none ∧ X = hp N L B G' ∧ (∀ a, a ≠ 71 → G' a = ug (ug G 70 0 s) 70 1 n a) ∧ (∀ k, k < 60 → G' 71 k = 0)) (by omega) (by
    have lp := lp219_2 (d := d - 1 - 1) (N := N) (L := L) (B := B) (G := ug (ug G 70 0 s) 70 1 n) (Q := fun r X => ∃ G', r = none ∧ X = hp N L B G' ∧ (∀ a, a ≠ 71 → G' a = ug (ug G 70 0 s) 70 1 n a) ∧ (∀ k, k < 60 → G' 71 k = 0)) (fun G' a b => ⟨G', rfl, rfl, a, b⟩) 60 0 _ (by omega) (fun _ _ => rfl) (fun i hi => by omega)
    simp (disch := omega) only [s219_0, s219_1, s219_2, m219_3_67, m219_3_69, m219_3_71, m219_3_73, m219_3_75, m219_3_77, s219_4, Int.toNat_natCast, Int.toNat_natCast, Nat.reduceAdd, Nat.reduceMul, Int.reduceToNat, Int.reduceAdd, Int.reduceLT, Int.reduceLE, Int.reduceEq, Int.reduceNeg, Int.reduceMul, Int.reduceSub, Nat.reduceSub, reduceIte, ite_true, ite_false, and_true, true_and, and_self]
    exact lp)
  rw [hr1, hX1] at hS1
  refine ⟨G1, ?_, ?_, ?_⟩
  · refine e41 (by omega) ?_
    simp (disch := omega) only [s41_0, s41_1, m41_2_66, m41_2_68, m41_2_70, m41_2_72, m41_2_74, m41_2_76, s41_5, s41_6, m41_7_66, m41_7_68, m41_7_70, m41_7_72, m41_7_74, m41_7_76, s41_10, m41_11_66, m41_11_68, m41_11_70, m41_11_72, m41_11_74, m41_11_76, s41_14, s41_18, Int.toNat_natCast, Int.toNat_natCast, Nat.reduceAdd, Nat.reduceMul, Int.reduceToNat, Int.reduceAdd, Int.reduceLT, Int.reduceLE, Int.reduceEq, Int.reduceNeg, Int.reduceMul, Int.reduceSub, Nat.reduceSub, reduceIte, ite_true, ite_false, and_true, true_and, and_self, c41_15 (by rfl) hS1]
  · refine tv_upd2 h ⟨?_, ?_, ?_⟩ (fun a h1 h2 => by rw [hf1 a h2, ug_ne h1, ug_ne h1]) (fun i hi => ⟨?_, ?_, ?_⟩)
    · rw [hf1 _ (by omega), ug_k (by omega), ug_at]; rfl
    · rw [hf1 _ (by omega), ug_at]; rfl
    · intro k hk; rw [hz1 k hk]; rfl
    · unfold becS; rw [if_neg (by omega), if_neg (by omega), if_neg (by omega)]
    · unfold becS; rw [if_neg (by omega), if_neg (by omega), if_neg (by omega)]
    · intro k hk; unfold becS; rw [if_neg (by omega), if_neg (by omega), if_neg (by omega)]
  · intro a ha
    rw [hf1 a (by omega), ug_ne (by omega), ug_ne (by omega)]
theorem sp42_2 {d N L : Nat} {z : Int} {B : q_Bv} {G T : q_Gi} (hd : 1 ≤ d) (h : tv G T) (ho : Tok T) (hz : -2147483648 ≤ z ∧ z ≤ 2147483647) : Sp d 42 [.ref 70, vI z] (hp N L B G) (some (vI (bI (0 ≤ z ∧ z < T 1 2)))) (hp N L B G) := by
  have o1 := (ho 2 (by omega)).2.1
  obtain ⟨h0, h1, h2, h3, h4, h5⟩ := h
  refine e42 (by omega) ?_
  simp (disch := omega) only [s42_0, s42_1, s42_4, s42_5, m42_6_66, m42_6_68, m42_6_70, m42_6_72, m42_6_74, m42_6_76, s42_9, s42_12, s42_13, s42_16, s42_17, s42_17b, Int.toNat_natCast, Int.toNat_natCast, Nat.reduceAdd, Nat.reduceMul, Int.reduceToNat, Int.reduceAdd, Int.reduceLT, Int.reduceLE, Int.reduceEq, Int.reduceNeg, Int.reduceMul, Int.reduceSub, Nat.reduceSub, reduceIte, ite_true, ite_false, and_true, true_and, and_self, h2.2.1]
  repeat' split
  all_goals first | rw [bI_t (by omega)] | rw [bI_f (by omega)]
theorem sp43_2 {d N L : Nat} {z n : Int} {B : q_Bv} {G T : q_Gi} (hd : 1 ≤ d) (h : tv G T) (ho : Tok T) (hz : -2147483648 ≤ z ∧ z ≤ 2147483647) (hn : -2147483648 ≤ n ∧ n ≤ 2147483647) : Sp d 43 [.ref 70, vI z, vI n] (hp N L B G) (some (vI (bI (0 ≤ z ∧ 0 ≤ n ∧ z ≤ T 1 2 - n)))) (hp N L B G) := by
  have o1 := (ho 2 (by omega)).2.1
  obtain ⟨h0, h1, h2, h3, h4, h5⟩ := h
  refine e43 (by omega) ?_
  by_cases c1 : z < 0
  · simp (disch := omega) only [s43_0, s43_1, s43_4, s43_5, s43_8, s43_9, m43_10_66, m43_10_68, m43_10_70, m43_10_72, m43_10_74, m43_10_76, s43_13, s43_14, s43_15, s43_18, s43_19, s43_22, s43_23, s43_23b, Int.toNat_natCast, Int.toNat_natCast, Nat.reduceAdd, Nat.reduceMul, Int.reduceToNat, Int.reduceAdd, Int.reduceLT, Int.reduceLE, Int.reduceEq, Int.reduceNeg, Int.reduceMul, Int.reduceSub, Nat.reduceSub, reduceIte, ite_true, ite_false, and_true, true_and, and_self, c1]
    rw [bI_f (by omega)]
  · by_cases c2 : n < 0
    · simp (disch := omega) only [s43_0, s43_1, s43_4, s43_5, s43_8, s43_9, m43_10_66, m43_10_68, m43_10_70, m43_10_72, m43_10_74, m43_10_76, s43_13, s43_14, s43_15, s43_18, s43_19, s43_22, s43_23, s43_23b, Int.toNat_natCast, Int.toNat_natCast, Nat.reduceAdd, Nat.reduceMul, Int.reduceToNat, Int.reduceAdd, Int.reduceLT, Int.reduceLE, Int.reduceEq, Int.reduceNeg, Int.reduceMul, Int.reduceSub, Nat.reduceSub, reduceIte, ite_true, ite_false, and_true, true_and, and_self, c1, c2]
      rw [bI_f (by omega)]
    · simp (disch := omega) only [s43_0, s43_1, s43_4, s43_5, s43_8, s43_9, m43_10_66, m43_10_68, m43_10_70, m43_10_72, m43_10_74, m43_10_76, s43_13, s43_14, s43_15, s43_18, s43_19, s43_22, s43_23, s43_23b, Int.toNat_natCast, Int.toNat_natCast, Nat.reduceAdd, Nat.reduceMul, Int.reduceToNat, Int.reduceAdd, Int.reduceLT, Int.reduceLE, Int.reduceEq, Int.reduceNeg, Int.reduceMul, Int.reduceSub, Nat.reduceSub, reduceIte, ite_true, ite_false, and_true, true_and, and_self, c1, c2, h2.2.1]
      repeat' split
      all_goals first | rw [bI_t (by omega)] | rw [bI_f (by omega)]
theorem sp44_2 {d N L : Nat} {z : Int} {B : q_Bv} {G T : q_Gi} (hd : 1 ≤ d) (h : tv G T) (ho : Tok T) (hz : lr z) : Sp d 44 [.ref 70, vL z] (hp N L B G) (some (vL (nrS (T 0 2) z))) (hp N L B G) := by
  have o1 := (ho 2 (by omega)).1
  obtain ⟨h0, h1, h2, h3, h4, h5⟩ := h
  have r1 := i32_r ((Int32.ofInt (l2i z)).toInt8.toInt32)
  have r2 := i32_r ((Int32.ofInt (l2i z)).toInt16.toInt32)
  have r3 := i32_r ((Int64.ofInt z).toInt32)
  change -2147483648 ≤ i2b (l2i z) ∧ i2b (l2i z) ≤ 2147483647 at r1
  change -2147483648 ≤ i2s (l2i z) ∧ i2s (l2i z) ≤ 2147483647 at r2
  change -2147483648 ≤ l2i z ∧ l2i z ≤ 2147483647 at r3
  have hz' : -9223372036854775808 ≤ z ∧ z ≤ 9223372036854775807 := hz
  refine e44 (by omega) ?_
  have o2 : T 0 2 = 0 ∨ T 0 2 = 1 ∨ T 0 2 = 2 ∨ T 0 2 = 3 ∨ (¬ T 0 2 = 0 ∧ ¬ T 0 2 = 1 ∧ ¬ T 0 2 = 2 ∧ ¬ T 0 2 = 3) := by omega
  rcases o2 with o2 | o2 | o2 | o2 | ⟨n0, n1, n2, n3⟩
  · simp (disch := first | omega | assumption) only [s44_0, m44_1_66, m44_1_68, m44_1_70, m44_1_72, m44_1_74, m44_1_76, s44_4, s44_36, s44_37, s44_38, s44_39, s44_40, s44_41, s44_42, s44_43, s44_44, s44_45, s44_46, s44_47, s44_48, s44_49, s44_50, s44_51, s44_52, s44_53, s44_54, s44_55, s44_55b, s44_58, s44_59, s44_62, s44_63, Int.toNat_natCast, Int.toNat_natCast, Nat.reduceAdd, Nat.reduceMul, Int.reduceToNat, Int.reduceAdd, Int.reduceLT, Int.reduceLE, Int.reduceEq, Int.reduceNeg, Int.reduceMul, Int.reduceSub, Nat.reduceSub, reduceIte, ite_true, ite_false, and_true, true_and, and_self, h2.1, o2, nrS]
  · simp (disch := first | omega | assumption) only [s44_0, m44_1_66, m44_1_68, m44_1_70, m44_1_72, m44_1_74, m44_1_76, s44_4, s44_36, s44_37, s44_38, s44_39, s44_40, s44_41, s44_42, s44_43, s44_44, s44_45, s44_46, s44_47, s44_48, s44_49, s44_50, s44_51, s44_52, s44_53, s44_54, s44_55, s44_55b, s44_58, s44_59, s44_62, s44_63, Int.toNat_natCast, Int.toNat_natCast, Nat.reduceAdd, Nat.reduceMul, Int.reduceToNat, Int.reduceAdd, Int.reduceLT, Int.reduceLE, Int.reduceEq, Int.reduceNeg, Int.reduceMul, Int.reduceSub, Nat.reduceSub, reduceIte, ite_true, ite_false, and_true, true_and, and_self, h2.1, o2, nrS]
  · simp (disch := first | omega | assumption) only [s44_0, m44_1_66, m44_1_68, m44_1_70, m44_1_72, m44_1_74, m44_1_76, s44_4, s44_36, s44_37, s44_38, s44_39, s44_40, s44_41, s44_42, s44_43, s44_44, s44_45, s44_46, s44_47, s44_48, s44_49, s44_50, s44_51, s44_52, s44_53, s44_54, s44_55, s44_55b, s44_58, s44_59, s44_62, s44_63, Int.toNat_natCast, Int.toNat_natCast, Nat.reduceAdd, Nat.reduceMul, Int.reduceToNat, Int.reduceAdd, Int.reduceLT, Int.reduceLE, Int.reduceEq, Int.reduceNeg, Int.reduceMul, Int.reduceSub, Nat.reduceSub, reduceIte, ite_true, ite_false, and_true, true_and, and_self, h2.1, o2, nrS]
  · simp (disch := first | omega | assumption) only [s44_0, m44_1_66, m44_1_68, m44_1_70, m44_1_72, m44_1_74, m44_1_76, s44_4, s44_36, s44_37, s44_38, s44_39, s44_40, s44_41, s44_42, s44_43, s44_44, s44_45, s44_46, s44_47, s44_48, s44_49, s44_50, s44_51, s44_52, s44_53, s44_54, s44_55, s44_55b, s44_58, s44_59, s44_62, s44_63, Int.toNat_natCast, Int.toNat_natCast, Nat.reduceAdd, Nat.reduceMul, Int.reduceToNat, Int.reduceAdd, Int.reduceLT, Int.reduceLE, Int.reduceEq, Int.reduceNeg, Int.reduceMul, Int.reduceSub, Nat.reduceSub, reduceIte, ite_true, ite_false, and_true, true_and, and_self, h2.1, o2, nrS]
  · have e0 : cmpz z 0 = 0 ↔ z = 0 := by
      unfold cmpz
      (repeat' split) <;> omega
    have e1 : -2147483648 ≤ cmpz z 0 ∧ cmpz z 0 ≤ 2147483647 := by
      unfold cmpz
      (repeat' split) <;> omega
    simp (disch := first | omega | assumption) only [s44_0, m44_1_66, m44_1_68, m44_1_70, m44_1_72, m44_1_74, m44_1_76, s44_4, s44_36, s44_37, s44_38, s44_39, s44_40, s44_41, s44_42, s44_43, s44_44, s44_45, s44_46, s44_47, s44_48, s44_49, s44_50, s44_51, s44_52, s44_53, s44_54, s44_55, s44_55b, s44_58, s44_59, s44_62, s44_63, Int.toNat_natCast, Int.toNat_natCast, Nat.reduceAdd, Nat.reduceMul, Int.reduceToNat, Int.reduceAdd, Int.reduceLT, Int.reduceLE, Int.reduceEq, Int.reduceNeg, Int.reduceMul, Int.reduceSub, Nat.reduceSub, reduceIte, ite_true, ite_false, and_true, true_and, and_self, h2.1, n0, n1, n2, n3, nrS, e0]
    by_cases c : z = 0
    · rw [if_pos c, if_pos c]
    · rw [if_neg c, if_neg c]
theorem tv_upd3 {G G' T T' : q_Gi} (h : tv G T) (own : tv3 G' T') (e : ∀ a, a ≠ 72 → a ≠ 73 → G' a = G a) (e0 : ∀ i, i ≠ 3 → T' 0 i = T 0 i ∧ T' 1 i = T 1 i ∧ ∀ k, k < 60 → T' (2 + i) k = T (2 + i) k) : tv G' T' := by
  obtain ⟨h0, h1, h2, h3, h4, h5⟩ := h
  refine ⟨?_, ?_, ?_, ?_, ?_, ?_⟩
  · first | exact own | exact tv0_f h0 (fun a _ _ => e a (by omega) (by omega)) (e0 0 (by omega)).1 (e0 0 (by omega)).2.1 (e0 0 (by omega)).2.2
  · first | exact own | exact tv1_f h1 (fun a _ _ => e a (by omega) (by omega)) (e0 1 (by omega)).1 (e0 1 (by omega)).2.1 (e0 1 (by omega)).2.2
  · first | exact own | exact tv2_f h2 (fun a _ _ => e a (by omega) (by omega)) (e0 2 (by omega)).1 (e0 2 (by omega)).2.1 (e0 2 (by omega)).2.2
  · first | exact own | exact tv3_f h3 (fun a _ _ => e a (by omega) (by omega)) (e0 3 (by omega)).1 (e0 3 (by omega)).2.1 (e0 3 (by omega)).2.2
  · first | exact own | exact tv4_f h4 (fun a _ _ => e a (by omega) (by omega)) (e0 4 (by omega)).1 (e0 4 (by omega)).2.1 (e0 4 (by omega)).2.2
  · first | exact own | exact tv5_f h5 (fun a _ _ => e a (by omega) (by omega)) (e0 5 (by omega)).1 (e0 5 (by omega)).2.1 (e0 5 (by omega)).2.2
theorem lp219_3 {d N L : Nat} {B : q_Bv} {G : q_Gi} {Q : Option Value → q_H → Prop} (hQ : ∀ G', (∀ a, a ≠ 73 → G' a = G a) → (∀ k, k < 60 → G' 73 k = 0) → Q none (hp N L B G')) : ∀ (m k : Nat) (G' : q_Gi), k + m = 60 → (∀ a, a ≠ 73 → G' a = G a) → (∀ i, i < k → G' 73 i = 0) → WP d 219 6 [.ref 73, vL 0, .null, vI k, vI 60] [] (hp N L B G') Q := by
  intro m
  induction m with
  | zero =>
    intro k G' hk hf hz
    have hk4 : k = 60 := by omega
    subst hk4
    have := hQ G' hf hz
    simp (disch := omega) only [s219_6, s219_7, s219_9, s219_22, Int.toNat_natCast, Int.toNat_natCast, Nat.reduceAdd, Nat.reduceMul, Int.reduceToNat, Int.reduceAdd, Int.reduceLT, Int.reduceLE, Int.reduceEq, Int.reduceNeg, Int.reduceMul, Int.reduceSub, Nat.reduceSub, reduceIte, ite_true, ite_false, and_true, true_and, and_self, show ((60 : Nat) : Int) = 60 from rfl]
    exact this
  | succ m ih =>
    intro k G' hk hf hz
    have hlt : ((k : Int) < 60) := by omega
    have := ih (k + 1) (ug G' 73 k 0) (by omega) (fun a ha => by rw [ug_ne ha]; exact hf a ha) (fun i hi => by
      by_cases e : i = k
      · rw [e, ug_at]
      · rw [ug_k e]; exact hz i (by omega))
    rw [show ((k + 1 : Nat) : Int) = (k : Int) + 1 from rfl] at this
    rw [s219_6]
    simp (disch := omega) only [s219_7, s219_9, s219_12, s219_13, s219_14, m219_15_67, m219_15_69, m219_15_71, m219_15_73, m219_15_75, m219_15_77, s219_16, s219_19, Int.toNat_natCast, Int.toNat_natCast, Nat.reduceAdd, Nat.reduceMul, Int.reduceToNat, Int.reduceAdd, Int.reduceLT, Int.reduceLE, Int.reduceEq, Int.reduceNeg, Int.reduceMul, Int.reduceSub, Nat.reduceSub, reduceIte, ite_true, ite_false, and_true, true_and, and_self, hlt]
    exact this
theorem sp41_3 {d N L : Nat} {s n : Int} {B : q_Bv} {G T : q_Gi} (hd : 2 ≤ d) (h : tv G T) : ∃ G', Sp d 41 [.ref 72, vI s, vI n] (hp N L B G) none (hp N L B G') ∧ tv G' (becS T 3 s n) ∧ ∀ a, (a < 66 ∨ 77 < a) → G' a = G a := by
  obtain ⟨r1, X1, hS1, G1, hr1, hX1, hf1, hz1⟩ := E219 (d := d - 1) (X := hp N L B (ug (ug G 72 0 s) 72 1 n)) (a1 := 73) (z2 := 0) (Q := fun r X => ∃ G', r = none ∧ X = hp N L B G' ∧ (∀ a, a ≠ 73 → G' a = ug (ug G 72 0 s) 72 1 n a) ∧ (∀ k, k < 60 → G' 73 k = 0)) (by omega) (by
    have lp := lp219_3 (d := d - 1 - 1) (N := N) (L := L) (B := B) (G := ug (ug G 72 0 s) 72 1 n) (Q := fun r X => ∃ G', r = none ∧ X = hp N L B G' ∧ (∀ a, a ≠ 73 → G' a = ug (ug G 72 0 s) 72 1 n a) ∧ (∀ k, k < 60 → G' 73 k = 0)) (fun G' a b => ⟨G', rfl, rfl, a, b⟩) 60 0 _ (by omega) (fun _ _ => rfl) (fun i hi => by omega)
    simp (disch := omega) only [s219_0, s219_1, s219_2, m219_3_67, m219_3_69, m219_3_71, m219_3_73, m219_3_75, m219_3_77, s219_4, Int.toNat_natCast, Int.toNat_natCast, Nat.reduceAdd, Nat.reduceMul, Int.reduceToNat, Int.reduceAdd, Int.reduceLT, Int.reduceLE, Int.reduceEq, Int.reduceNeg, Int.reduceMul, Int.reduceSub, Nat.reduceSub, reduceIte, ite_true, ite_false, and_true, true_and, and_self]
    exact lp)
  rw [hr1, hX1] at hS1
  refine ⟨G1, ?_, ?_, ?_⟩
  · refine e41 (by omega) ?_
    simp (disch := omega) only [s41_0, s41_1, m41_2_66, m41_2_68, m41_2_70, m41_2_72, m41_2_74, m41_2_76, s41_5, s41_6, m41_7_66, m41_7_68, m41_7_70, m41_7_72, m41_7_74, m41_7_76, s41_10, m41_11_66, m41_11_68, m41_11_70, m41_11_72, m41_11_74, m41_11_76, s41_14, s41_18, Int.toNat_natCast, Int.toNat_natCast, Nat.reduceAdd, Nat.reduceMul, Int.reduceToNat, Int.reduceAdd, Int.reduceLT, Int.reduceLE, Int.reduceEq, Int.reduceNeg, Int.reduceMul, Int.reduceSub, Nat.reduceSub, reduceIte, ite_true, ite_false, and_true, true_and, and_self, c41_15 (by rfl) hS1]
  · refine tv_upd3 h ⟨?_, ?_, ?_⟩ (fun a h1 h2 => by rw [hf1 a h2, ug_ne h1, ug_ne h1]) (fun i hi => ⟨?_, ?_, ?_⟩)
    · rw [hf1 _ (by omega), ug_k (by omega), ug_at]; rfl
    · rw [hf1 _ (by omega), ug_at]; rfl
    · intro k hk; rw [hz1 k hk]; rfl
    · unfold becS; rw [if_neg (by omega), if_neg (by omega), if_neg (by omega)]
    · unfold becS; rw [if_neg (by omega), if_neg (by omega), if_neg (by omega)]
    · intro k hk; unfold becS; rw [if_neg (by omega), if_neg (by omega), if_neg (by omega)]
  · intro a ha
    rw [hf1 a (by omega), ug_ne (by omega), ug_ne (by omega)]
theorem sp42_3 {d N L : Nat} {z : Int} {B : q_Bv} {G T : q_Gi} (hd : 1 ≤ d) (h : tv G T) (ho : Tok T) (hz : -2147483648 ≤ z ∧ z ≤ 2147483647) : Sp d 42 [.ref 72, vI z] (hp N L B G) (some (vI (bI (0 ≤ z ∧ z < T 1 3)))) (hp N L B G) := by
  have o1 := (ho 3 (by omega)).2.1
  obtain ⟨h0, h1, h2, h3, h4, h5⟩ := h
  refine e42 (by omega) ?_
  simp (disch := omega) only [s42_0, s42_1, s42_4, s42_5, m42_6_66, m42_6_68, m42_6_70, m42_6_72, m42_6_74, m42_6_76, s42_9, s42_12, s42_13, s42_16, s42_17, s42_17b, Int.toNat_natCast, Int.toNat_natCast, Nat.reduceAdd, Nat.reduceMul, Int.reduceToNat, Int.reduceAdd, Int.reduceLT, Int.reduceLE, Int.reduceEq, Int.reduceNeg, Int.reduceMul, Int.reduceSub, Nat.reduceSub, reduceIte, ite_true, ite_false, and_true, true_and, and_self, h3.2.1]
  repeat' split
  all_goals first | rw [bI_t (by omega)] | rw [bI_f (by omega)]
theorem sp43_3 {d N L : Nat} {z n : Int} {B : q_Bv} {G T : q_Gi} (hd : 1 ≤ d) (h : tv G T) (ho : Tok T) (hz : -2147483648 ≤ z ∧ z ≤ 2147483647) (hn : -2147483648 ≤ n ∧ n ≤ 2147483647) : Sp d 43 [.ref 72, vI z, vI n] (hp N L B G) (some (vI (bI (0 ≤ z ∧ 0 ≤ n ∧ z ≤ T 1 3 - n)))) (hp N L B G) := by
  have o1 := (ho 3 (by omega)).2.1
  obtain ⟨h0, h1, h2, h3, h4, h5⟩ := h
  refine e43 (by omega) ?_
  by_cases c1 : z < 0
  · simp (disch := omega) only [s43_0, s43_1, s43_4, s43_5, s43_8, s43_9, m43_10_66, m43_10_68, m43_10_70, m43_10_72, m43_10_74, m43_10_76, s43_13, s43_14, s43_15, s43_18, s43_19, s43_22, s43_23, s43_23b, Int.toNat_natCast, Int.toNat_natCast, Nat.reduceAdd, Nat.reduceMul, Int.reduceToNat, Int.reduceAdd, Int.reduceLT, Int.reduceLE, Int.reduceEq, Int.reduceNeg, Int.reduceMul, Int.reduceSub, Nat.reduceSub, reduceIte, ite_true, ite_false, and_true, true_and, and_self, c1]
    rw [bI_f (by omega)]
  · by_cases c2 : n < 0
    · simp (disch := omega) only [s43_0, s43_1, s43_4, s43_5, s43_8, s43_9, m43_10_66, m43_10_68, m43_10_70, m43_10_72, m43_10_74, m43_10_76, s43_13, s43_14, s43_15, s43_18, s43_19, s43_22, s43_23, s43_23b, Int.toNat_natCast, Int.toNat_natCast, Nat.reduceAdd, Nat.reduceMul, Int.reduceToNat, Int.reduceAdd, Int.reduceLT, Int.reduceLE, Int.reduceEq, Int.reduceNeg, Int.reduceMul, Int.reduceSub, Nat.reduceSub, reduceIte, ite_true, ite_false, and_true, true_and, and_self, c1, c2]
      rw [bI_f (by omega)]
    · simp (disch := omega) only [s43_0, s43_1, s43_4, s43_5, s43_8, s43_9, m43_10_66, m43_10_68, m43_10_70, m43_10_72, m43_10_74, m43_10_76, s43_13, s43_14, s43_15, s43_18, s43_19, s43_22, s43_23, s43_23b, Int.toNat_natCast, Int.toNat_natCast, Nat.reduceAdd, Nat.reduceMul, Int.reduceToNat, Int.reduceAdd, Int.reduceLT, Int.reduceLE, Int.reduceEq, Int.reduceNeg, Int.reduceMul, Int.reduceSub, Nat.reduceSub, reduceIte, ite_true, ite_false, and_true, true_and, and_self, c1, c2, h3.2.1]
      repeat' split
      all_goals first | rw [bI_t (by omega)] | rw [bI_f (by omega)]
theorem sp44_3 {d N L : Nat} {z : Int} {B : q_Bv} {G T : q_Gi} (hd : 1 ≤ d) (h : tv G T) (ho : Tok T) (hz : lr z) : Sp d 44 [.ref 72, vL z] (hp N L B G) (some (vL (nrS (T 0 3) z))) (hp N L B G) := by
  have o1 := (ho 3 (by omega)).1
  obtain ⟨h0, h1, h2, h3, h4, h5⟩ := h
  have r1 := i32_r ((Int32.ofInt (l2i z)).toInt8.toInt32)
  have r2 := i32_r ((Int32.ofInt (l2i z)).toInt16.toInt32)
  have r3 := i32_r ((Int64.ofInt z).toInt32)
  change -2147483648 ≤ i2b (l2i z) ∧ i2b (l2i z) ≤ 2147483647 at r1
  change -2147483648 ≤ i2s (l2i z) ∧ i2s (l2i z) ≤ 2147483647 at r2
  change -2147483648 ≤ l2i z ∧ l2i z ≤ 2147483647 at r3
  have hz' : -9223372036854775808 ≤ z ∧ z ≤ 9223372036854775807 := hz
  refine e44 (by omega) ?_
  have o2 : T 0 3 = 0 ∨ T 0 3 = 1 ∨ T 0 3 = 2 ∨ T 0 3 = 3 ∨ (¬ T 0 3 = 0 ∧ ¬ T 0 3 = 1 ∧ ¬ T 0 3 = 2 ∧ ¬ T 0 3 = 3) := by omega
  rcases o2 with o2 | o2 | o2 | o2 | ⟨n0, n1, n2, n3⟩
  · simp (disch := first | omega | assumption) only [s44_0, m44_1_66, m44_1_68, m44_1_70, m44_1_72, m44_1_74, m44_1_76, s44_4, s44_36, s44_37, s44_38, s44_39, s44_40, s44_41, s44_42, s44_43, s44_44, s44_45, s44_46, s44_47, s44_48, s44_49, s44_50, s44_51, s44_52, s44_53, s44_54, s44_55, s44_55b, s44_58, s44_59, s44_62, s44_63, Int.toNat_natCast, Int.toNat_natCast, Nat.reduceAdd, Nat.reduceMul, Int.reduceToNat, Int.reduceAdd, Int.reduceLT, Int.reduceLE, Int.reduceEq, Int.reduceNeg, Int.reduceMul, Int.reduceSub, Nat.reduceSub, reduceIte, ite_true, ite_false, and_true, true_and, and_self, h3.1, o2, nrS]
  · simp (disch := first | omega | assumption) only [s44_0, m44_1_66, m44_1_68, m44_1_70, m44_1_72, m44_1_74, m44_1_76, s44_4, s44_36, s44_37, s44_38, s44_39, s44_40, s44_41, s44_42, s44_43, s44_44, s44_45, s44_46, s44_47, s44_48, s44_49, s44_50, s44_51, s44_52, s44_53, s44_54, s44_55, s44_55b, s44_58, s44_59, s44_62, s44_63, Int.toNat_natCast, Int.toNat_natCast, Nat.reduceAdd, Nat.reduceMul, Int.reduceToNat, Int.reduceAdd, Int.reduceLT, Int.reduceLE, Int.reduceEq, Int.reduceNeg, Int.reduceMul, Int.reduceSub, Nat.reduceSub, reduceIte, ite_true, ite_false, and_true, true_and, and_self, h3.1, o2, nrS]
  · simp (disch := first | omega | assumption) only [s44_0, m44_1_66, m44_1_68, m44_1_70, m44_1_72, m44_1_74, m44_1_76, s44_4, s44_36, s44_37, s44_38, s44_39, s44_40, s44_41, s44_42, s44_43, s44_44, s44_45, s44_46, s44_47, s44_48, s44_49, s44_50, s44_51, s44_52, s44_53, s44_54, s44_55, s44_55b, s44_58, s44_59, s44_62, s44_63, Int.toNat_natCast, Int.toNat_natCast, Nat.reduceAdd, Nat.reduceMul, Int.reduceToNat, Int.reduceAdd, Int.reduceLT, Int.reduceLE, Int.reduceEq, Int.reduceNeg, Int.reduceMul, Int.reduceSub, Nat.reduceSub, reduceIte, ite_true, ite_false, and_true, true_and, and_self, h3.1, o2, nrS]
  · simp (disch := first | omega | assumption) only [s44_0, m44_1_66, m44_1_68, m44_1_70, m44_1_72, m44_1_74, m44_1_76, s44_4, s44_36, s44_37, s44_38, s44_39, s44_40, s44_41, s44_42, s44_43, s44_44, s44_45, s44_46, s44_47, s44_48, s44_49, s44_50, s44_51, s44_52, s44_53, s44_54, s44_55, s44_55b, s44_58, s44_59, s44_62, s44_63, Int.toNat_natCast, Int.toNat_natCast, Nat.reduceAdd, Nat.reduceMul, Int.reduceToNat, Int.reduceAdd, Int.reduceLT, Int.reduceLE, Int.reduceEq, Int.reduceNeg, Int.reduceMul, Int.reduceSub, Nat.reduceSub, reduceIte, ite_true, ite_false, and_true, true_and, and_self, h3.1, o2, nrS]
  · have e0 : cmpz z 0 = 0 ↔ z = 0 := by
      unfold cmpz
      (repeat' split) <;> omega
    have e1 : -2147483648 ≤ cmpz z 0 ∧ cmpz z 0 ≤ 2147483647 := by
      unfold cmpz
      (repeat' split) <;> omega
    simp (disch := first | omega | assumption) only [s44_0, m44_1_66, m44_1_68, m44_1_70, m44_1_72, m44_1_74, m44_1_76, s44_4, s44_36, s44_37, s44_38, s44_39, s44_40, s44_41, s44_42, s44_43, s44_44, s44_45, s44_46, s44_47, s44_48, s44_49, s44_50, s44_51, s44_52, s44_53, s44_54, s44_55, s44_55b, s44_58, s44_59, s44_62, s44_63, Int.toNat_natCast, Int.toNat_natCast, Nat.reduceAdd, Nat.reduceMul, Int.reduceToNat, Int.reduceAdd, Int.reduceLT, Int.reduceLE, Int.reduceEq, Int.reduceNeg, Int.reduceMul, Int.reduceSub, Nat.reduceSub, reduceIte, ite_true, ite_false, and_true, true_and, and_self, h3.1, n0, n1, n2, n3, nrS, e0]
    by_cases c : z = 0
    · rw [if_pos c, if_pos c]
    · rw [if_neg c, if_neg c]
theorem tv_upd4 {G G' T T' : q_Gi} (h : tv G T) (own : tv4 G' T') (e : ∀ a, a ≠ 74 → a ≠ 75 → G' a = G a) (e0 : ∀ i, i ≠ 4 → T' 0 i = T 0 i ∧ T' 1 i = T 1 i ∧ ∀ k, k < 60 → T' (2 + i) k = T (2 + i) k) : tv G' T' := by
  obtain ⟨h0, h1, h2, h3, h4, h5⟩ := h
  refine ⟨?_, ?_, ?_, ?_, ?_, ?_⟩
  · first | exact own | exact tv0_f h0 (fun a _ _ => e a (by omega) (by omega)) (e0 0 (by omega)).1 (e0 0 (by omega)).2.1 (e0 0 (by omega)).2.2
  · first | exact own | exact tv1_f h1 (fun a _ _ => e a (by omega) (by omega)) (e0 1 (by omega)).1 (e0 1 (by omega)).2.1 (e0 1 (by omega)).2.2
  · first | exact own | exact tv2_f h2 (fun a _ _ => e a (by omega) (by omega)) (e0 2 (by omega)).1 (e0 2 (by omega)).2.1 (e0 2 (by omega)).2.2
  · first | exact own | exact tv3_f h3 (fun a _ _ => e a (by omega) (by omega)) (e0 3 (by omega)).1 (e0 3 (by omega)).2.1 (e0 3 (by omega)).2.2
  · first | exact own | exact tv4_f h4 (fun a _ _ => e a (by omega) (by omega)) (e0 4 (by omega)).1 (e0 4 (by omega)).2.1 (e0 4 (by omega)).2.2
  · first | exact own | exact tv5_f h5 (fun a _ _ => e a (by omega) (by omega)) (e0 5 (by omega)).1 (e0 5 (by omega)).2.1 (e0 5 (by omega)).2.2
theorem lp219_4 {d N L : Nat} {B : q_Bv} {G : q_Gi} {Q : Option Value → q_H → Prop} (hQ : ∀ G', (∀ a, a ≠ 75 → G' a = G a) → (∀ k, k < 60 → G' 75 k = 0) → Q none (hp N L B G')) : ∀ (m k : Nat) (G' : q_Gi), k + m = 60 → (∀ a, a ≠ 75 → G' a = G a) → (∀ i, i < k → G' 75 i = 0) → WP d 219 6 [.ref 75, vL 0, .null, vI k, vI 60] [] (hp N L B G') Q := by
  intro m
  induction m with
  | zero =>
    intro k G' hk hf hz
    have hk4 : k = 60 := by omega
    subst hk4
    have := hQ G' hf hz
    simp (disch := omega) only [s219_6, s219_7, s219_9, s219_22, Int.toNat_natCast, Int.toNat_natCast, Nat.reduceAdd, Nat.reduceMul, Int.reduceToNat, Int.reduceAdd, Int.reduceLT, Int.reduceLE, Int.reduceEq, Int.reduceNeg, Int.reduceMul, Int.reduceSub, Nat.reduceSub, reduceIte, ite_true, ite_false, and_true, true_and, and_self, show ((60 : Nat) : Int) = 60 from rfl]
    exact this
  | succ m ih =>
    intro k G' hk hf hz
    have hlt : ((k : Int) < 60) := by omega
    have := ih (k + 1) (ug G' 75 k 0) (by omega) (fun a ha => by rw [ug_ne ha]; exact hf a ha) (fun i hi => by
      by_cases e : i = k
      · rw [e, ug_at]
      · rw [ug_k e]; exact hz i (by omega))
    rw [show ((k + 1 : Nat) : Int) = (k : Int) + 1 from rfl] at this
    rw [s219_6]
    simp (disch := omega) only [s219_7, s219_9, s219_12, s219_13, s219_14, m219_15_67, m219_15_69, m219_15_71, m219_15_73, m219_15_75, m219_15_77, s219_16, s219_19, Int.toNat_natCast, Int.toNat_natCast, Nat.reduceAdd, Nat.reduceMul, Int.reduceToNat, Int.reduceAdd, Int.reduceLT, Int.reduceLE, Int.reduceEq, Int.reduceNeg, Int.reduceMul, Int.reduceSub, Nat.reduceSub, reduceIte, ite_true, ite_false, and_true, true_and, and_self, hlt]
    exact this
theorem sp41_4 {d N L : Nat} {s n : Int} {B : q_Bv} {G T : q_Gi} (hd : 2 ≤ d) (h : tv G T) : ∃ G', Sp d 41 [.ref 74, vI s, vI n] (hp N L B G) none (hp N L B G') ∧ tv G' (becS T 4 s n) ∧ ∀ a, (a < 66 ∨ 77 < a) → G' a = G a := by
  obtain ⟨r1, X1, hS1, G1, hr1, hX1, hf1, hz1⟩ := E219 (d := d - 1) (X := hp N L B (ug (ug G 74 0 s) 74 1 n)) (a1 := 75) (z2 := 0) (Q := fun r X => ∃ G', r = none ∧ X = hp N L B G' ∧ (∀ a, a ≠ 75 → G' a = ug (ug G 74 0 s) 74 1 n a) ∧ (∀ k, k < 60 → G' 75 k = 0)) (by omega) (by
    have lp := lp219_4 (d := d - 1 - 1) (N := N) (L := L) (B := B) (G := ug (ug G 74 0 s) 74 1 n) (Q := fun r X => ∃ G', r = none ∧ X = hp N L B G' ∧ (∀ a, a ≠ 75 → G' a = ug (ug G 74 0 s) 74 1 n a) ∧ (∀ k, k < 60 → G' 75 k = 0)) (fun G' a b => ⟨G', rfl, rfl, a, b⟩) 60 0 _ (by omega) (fun _ _ => rfl) (fun i hi => by omega)
    simp (disch := omega) only [s219_0, s219_1, s219_2, m219_3_67, m219_3_69, m219_3_71, m219_3_73, m219_3_75, m219_3_77, s219_4, Int.toNat_natCast, Int.toNat_natCast, Nat.reduceAdd, Nat.reduceMul, Int.reduceToNat, Int.reduceAdd, Int.reduceLT, Int.reduceLE, Int.reduceEq, Int.reduceNeg, Int.reduceMul, Int.reduceSub, Nat.reduceSub, reduceIte, ite_true, ite_false, and_true, true_and, and_self]
    exact lp)
  rw [hr1, hX1] at hS1
  refine ⟨G1, ?_, ?_, ?_⟩
  · refine e41 (by omega) ?_
    simp (disch := omega) only [s41_0, s41_1, m41_2_66, m41_2_68, m41_2_70, m41_2_72, m41_2_74, m41_2_76, s41_5, s41_6, m41_7_66, m41_7_68, m41_7_70, m41_7_72, m41_7_74, m41_7_76, s41_10, m41_11_66, m41_11_68, m41_11_70, m41_11_72, m41_11_74, m41_11_76, s41_14, s41_18, Int.toNat_natCast, Int.toNat_natCast, Nat.reduceAdd, Nat.reduceMul, Int.reduceToNat, Int.reduceAdd, Int.reduceLT, Int.reduceLE, Int.reduceEq, Int.reduceNeg, Int.reduceMul, Int.reduceSub, Nat.reduceSub, reduceIte, ite_true, ite_false, and_true, true_and, and_self, c41_15 (by rfl) hS1]
  · refine tv_upd4 h ⟨?_, ?_, ?_⟩ (fun a h1 h2 => by rw [hf1 a h2, ug_ne h1, ug_ne h1]) (fun i hi => ⟨?_, ?_, ?_⟩)
    · rw [hf1 _ (by omega), ug_k (by omega), ug_at]; rfl
    · rw [hf1 _ (by omega), ug_at]; rfl
    · intro k hk; rw [hz1 k hk]; rfl
    · unfold becS; rw [if_neg (by omega), if_neg (by omega), if_neg (by omega)]
    · unfold becS; rw [if_neg (by omega), if_neg (by omega), if_neg (by omega)]
    · intro k hk; unfold becS; rw [if_neg (by omega), if_neg (by omega), if_neg (by omega)]
  · intro a ha
    rw [hf1 a (by omega), ug_ne (by omega), ug_ne (by omega)]
theorem sp42_4 {d N L : Nat} {z : Int} {B : q_Bv} {G T : q_Gi} (hd : 1 ≤ d) (h : tv G T) (ho : Tok T) (hz : -2147483648 ≤ z ∧ z ≤ 2147483647) : Sp d 42 [.ref 74, vI z] (hp N L B G) (some (vI (bI (0 ≤ z ∧ z < T 1 4)))) (hp N L B G) := by
  have o1 := (ho 4 (by omega)).2.1
  obtain ⟨h0, h1, h2, h3, h4, h5⟩ := h
  refine e42 (by omega) ?_
  simp (disch := omega) only [s42_0, s42_1, s42_4, s42_5, m42_6_66, m42_6_68, m42_6_70, m42_6_72, m42_6_74, m42_6_76, s42_9, s42_12, s42_13, s42_16, s42_17, s42_17b, Int.toNat_natCast, Int.toNat_natCast, Nat.reduceAdd, Nat.reduceMul, Int.reduceToNat, Int.reduceAdd, Int.reduceLT, Int.reduceLE, Int.reduceEq, Int.reduceNeg, Int.reduceMul, Int.reduceSub, Nat.reduceSub, reduceIte, ite_true, ite_false, and_true, true_and, and_self, h4.2.1]
  repeat' split
  all_goals first | rw [bI_t (by omega)] | rw [bI_f (by omega)]
theorem sp43_4 {d N L : Nat} {z n : Int} {B : q_Bv} {G T : q_Gi} (hd : 1 ≤ d) (h : tv G T) (ho : Tok T) (hz : -2147483648 ≤ z ∧ z ≤ 2147483647) (hn : -2147483648 ≤ n ∧ n ≤ 2147483647) : Sp d 43 [.ref 74, vI z, vI n] (hp N L B G) (some (vI (bI (0 ≤ z ∧ 0 ≤ n ∧ z ≤ T 1 4 - n)))) (hp N L B G) := by
  have o1 := (ho 4 (by omega)).2.1
  obtain ⟨h0, h1, h2, h3, h4, h5⟩ := h
  refine e43 (by omega) ?_
  by_cases c1 : z < 0
  · simp (disch := omega) only [s43_0, s43_1, s43_4, s43_5, s43_8, s43_9, m43_10_66, m43_10_68, m43_10_70, m43_10_72, m43_10_74, m43_10_76, s43_13, s43_14, s43_15, s43_18, s43_19, s43_22, s43_23, s43_23b, Int.toNat_natCast, Int.toNat_natCast, Nat.reduceAdd, Nat.reduceMul, Int.reduceToNat, Int.reduceAdd, Int.reduceLT, Int.reduceLE, Int.reduceEq, Int.reduceNeg, Int.reduceMul, Int.reduceSub, Nat.reduceSub, reduceIte, ite_true, ite_false, and_true, true_and, and_self, c1]
    rw [bI_f (by omega)]
  · by_cases c2 : n < 0
    · simp (disch := omega) only [s43_0, s43_1, s43_4, s43_5, s43_8, s43_9, m43_10_66, m43_10_68, m43_10_70, m43_10_72, m43_10_74, m43_10_76, s43_13, s43_14, s43_15, s43_18, s43_19, s43_22, s43_23, s43_23b, Int.toNat_natCast, Int.toNat_natCast, Nat.reduceAdd, Nat.reduceMul, Int.reduceToNat, Int.reduceAdd, Int.reduceLT, Int.reduceLE, Int.reduceEq, Int.reduceNeg, Int.reduceMul, Int.reduceSub, Nat.reduceSub, reduceIte, ite_true, ite_false, and_true, true_and, and_self, c1, c2]
      rw [bI_f (by omega)]
    · simp (disch := omega) only [s43_0, s43_1, s43_4, s43_5, s43_8, s43_9, m43_10_66, m43_10_68, m43_10_70, m43_10_72, m43_10_74, m43_10_76, s43_13, s43_14, s43_15, s43_18, s43_19, s43_22, s43_23, s43_23b, Int.toNat_natCast, Int.toNat_natCast, Nat.reduceAdd, Nat.reduceMul, Int.reduceToNat, Int.reduceAdd, Int.reduceLT, Int.reduceLE, Int.reduceEq, Int.reduceNeg, Int.reduceMul, Int.reduceSub, Nat.reduceSub, reduceIte, ite_true, ite_false, and_true, true_and, and_self, c1, c2, h4.2.1]
      repeat' split
      all_goals first | rw [bI_t (by omega)] | rw [bI_f (by omega)]
theorem sp44_4 {d N L : Nat} {z : Int} {B : q_Bv} {G T : q_Gi} (hd : 1 ≤ d) (h : tv G T) (ho : Tok T) (hz : lr z) : Sp d 44 [.ref 74, vL z] (hp N L B G) (some (vL (nrS (T 0 4) z))) (hp N L B G) := by
  have o1 := (ho 4 (by omega)).1
  obtain ⟨h0, h1, h2, h3, h4, h5⟩ := h
  have r1 := i32_r ((Int32.ofInt (l2i z)).toInt8.toInt32)
  have r2 := i32_r ((Int32.ofInt (l2i z)).toInt16.toInt32)
  have r3 := i32_r ((Int64.ofInt z).toInt32)
  change -2147483648 ≤ i2b (l2i z) ∧ i2b (l2i z) ≤ 2147483647 at r1
  change -2147483648 ≤ i2s (l2i z) ∧ i2s (l2i z) ≤ 2147483647 at r2
  change -2147483648 ≤ l2i z ∧ l2i z ≤ 2147483647 at r3
  have hz' : -9223372036854775808 ≤ z ∧ z ≤ 9223372036854775807 := hz
  refine e44 (by omega) ?_
  have o2 : T 0 4 = 0 ∨ T 0 4 = 1 ∨ T 0 4 = 2 ∨ T 0 4 = 3 ∨ (¬ T 0 4 = 0 ∧ ¬ T 0 4 = 1 ∧ ¬ T 0 4 = 2 ∧ ¬ T 0 4 = 3) := by omega
  rcases o2 with o2 | o2 | o2 | o2 | ⟨n0, n1, n2, n3⟩
  · simp (disch := first | omega | assumption) only [s44_0, m44_1_66, m44_1_68, m44_1_70, m44_1_72, m44_1_74, m44_1_76, s44_4, s44_36, s44_37, s44_38, s44_39, s44_40, s44_41, s44_42, s44_43, s44_44, s44_45, s44_46, s44_47, s44_48, s44_49, s44_50, s44_51, s44_52, s44_53, s44_54, s44_55, s44_55b, s44_58, s44_59, s44_62, s44_63, Int.toNat_natCast, Int.toNat_natCast, Nat.reduceAdd, Nat.reduceMul, Int.reduceToNat, Int.reduceAdd, Int.reduceLT, Int.reduceLE, Int.reduceEq, Int.reduceNeg, Int.reduceMul, Int.reduceSub, Nat.reduceSub, reduceIte, ite_true, ite_false, and_true, true_and, and_self, h4.1, o2, nrS]
  · simp (disch := first | omega | assumption) only [s44_0, m44_1_66, m44_1_68, m44_1_70, m44_1_72, m44_1_74, m44_1_76, s44_4, s44_36, s44_37, s44_38, s44_39, s44_40, s44_41, s44_42, s44_43, s44_44, s44_45, s44_46, s44_47, s44_48, s44_49, s44_50, s44_51, s44_52, s44_53, s44_54, s44_55, s44_55b, s44_58, s44_59, s44_62, s44_63, Int.toNat_natCast, Int.toNat_natCast, Nat.reduceAdd, Nat.reduceMul, Int.reduceToNat, Int.reduceAdd, Int.reduceLT, Int.reduceLE, Int.reduceEq, Int.reduceNeg, Int.reduceMul, Int.reduceSub, Nat.reduceSub, reduceIte, ite_true, ite_false, and_true, true_and, and_self, h4.1, o2, nrS]
  · simp (disch := first | omega | assumption) only [s44_0, m44_1_66, m44_1_68, m44_1_70, m44_1_72, m44_1_74, m44_1_76, s44_4, s44_36, s44_37, s44_38, s44_39, s44_40, s44_41, s44_42, s44_43, s44_44, s44_45, s44_46, s44_47, s44_48, s44_49, s44_50, s44_51, s44_52, s44_53, s44_54, s44_55, s44_55b, s44_58, s44_59, s44_62, s44_63, Int.toNat_natCast, Int.toNat_natCast, Nat.reduceAdd, Nat.reduceMul, Int.reduceToNat, Int.reduceAdd, Int.reduceLT, Int.reduceLE, Int.reduceEq, Int.reduceNeg, Int.reduceMul, Int.reduceSub, Nat.reduceSub, reduceIte, ite_true, ite_false, and_true, true_and, and_self, h4.1, o2, nrS]
  · simp (disch := first | omega | assumption) only [s44_0, m44_1_66, m44_1_68, m44_1_70, m44_1_72, m44_1_74, m44_1_76, s44_4, s44_36, s44_37, s44_38, s44_39, s44_40, s44_41, s44_42, s44_43, s44_44, s44_45, s44_46, s44_47, s44_48, s44_49, s44_50, s44_51, s44_52, s44_53, s44_54, s44_55, s44_55b, s44_58, s44_59, s44_62, s44_63, Int.toNat_natCast, Int.toNat_natCast, Nat.reduceAdd, Nat.reduceMul, Int.reduceToNat, Int.reduceAdd, Int.reduceLT, Int.reduceLE, Int.reduceEq, Int.reduceNeg, Int.reduceMul, Int.reduceSub, Nat.reduceSub, reduceIte, ite_true, ite_false, and_true, true_and, and_self, h4.1, o2, nrS]
  · have e0 : cmpz z 0 = 0 ↔ z = 0 := by
      unfold cmpz
      (repeat' split) <;> omega
    have e1 : -2147483648 ≤ cmpz z 0 ∧ cmpz z 0 ≤ 2147483647 := by
      unfold cmpz
      (repeat' split) <;> omega
    simp (disch := first | omega | assumption) only [s44_0, m44_1_66, m44_1_68, m44_1_70, m44_1_72, m44_1_74, m44_1_76, s44_4, s44_36, s44_37, s44_38, s44_39, s44_40, s44_41, s44_42, s44_43, s44_44, s44_45, s44_46, s44_47, s44_48, s44_49, s44_50, s44_51, s44_52, s44_53, s44_54, s44_55, s44_55b, s44_58, s44_59, s44_62, s44_63, Int.toNat_natCast, Int.toNat_natCast, Nat.reduceAdd, Nat.reduceMul, Int.reduceToNat, Int.reduceAdd, Int.reduceLT, Int.reduceLE, Int.reduceEq, Int.reduceNeg, Int.reduceMul, Int.reduceSub, Nat.reduceSub, reduceIte, ite_true, ite_false, and_true, true_and, and_self, h4.1, n0, n1, n2, n3, nrS, e0]
    by_cases c : z = 0
    · rw [if_pos c, if_pos c]
    · rw [if_neg c, if_neg c]
theorem tv_upd5 {G G' T T' : q_Gi} (h : tv G T) (own : tv5 G' T') (e : ∀ a, a ≠ 76 → a ≠ 77 → G' a = G a) (e0 : ∀ i, i ≠ 5 → T' 0 i = T 0 i ∧ T' 1 i = T 1 i ∧ ∀ k, k < 60 → T' (2 + i) k = T (2 + i) k) : tv G' T' := by
  obtain ⟨h0, h1, h2, h3, h4, h5⟩ := h
  refine ⟨?_, ?_, ?_, ?_, ?_, ?_⟩
  · first | exact own | exact tv0_f h0 (fun a _ _ => e a (by omega) (by omega)) (e0 0 (by omega)).1 (e0 0 (by omega)).2.1 (e0 0 (by omega)).2.2
  · first | exact own | exact tv1_f h1 (fun a _ _ => e a (by omega) (by omega)) (e0 1 (by omega)).1 (e0 1 (by omega)).2.1 (e0 1 (by omega)).2.2
  · first | exact own | exact tv2_f h2 (fun a _ _ => e a (by omega) (by omega)) (e0 2 (by omega)).1 (e0 2 (by omega)).2.1 (e0 2 (by omega)).2.2
  · first | exact own | exact tv3_f h3 (fun a _ _ => e a (by omega) (by omega)) (e0 3 (by omega)).1 (e0 3 (by omega)).2.1 (e0 3 (by omega)).2.2
  · first | exact own | exact tv4_f h4 (fun a _ _ => e a (by omega) (by omega)) (e0 4 (by omega)).1 (e0 4 (by omega)).2.1 (e0 4 (by omega)).2.2
  · first | exact own | exact tv5_f h5 (fun a _ _ => e a (by omega) (by omega)) (e0 5 (by omega)).1 (e0 5 (by omega)).2.1 (e0 5 (by omega)).2.2
theorem lp219_5 {d N L : Nat} {B : q_Bv} {G : q_Gi} {Q : Option Value → q_H → Prop} (hQ : ∀ G', (∀ a, a ≠ 77 → G' a = G a) → (∀ k, k < 60 → G' 77 k = 0) → Q none (hp N L B G')) : ∀ (m k : Nat) (G' : q_Gi), k + m = 60 → (∀ a, a ≠ 77 → G' a = G a) → (∀ i, i < k → G' 77 i = 0) → WP d 219 6 [.ref 77, vL 0, .null, vI k, vI 60] [] (hp N L B G') Q := by
  intro m
  induction m with
  | zero =>
    intro k G' hk hf hz
    have hk4 : k = 60 := by omega
    subst hk4
    have := hQ G' hf hz
    simp (disch := omega) only [s219_6, s219_7, s219_9, s219_22, Int.toNat_natCast, Int.toNat_natCast, Nat.reduceAdd, Nat.reduceMul, Int.reduceToNat, Int.reduceAdd, Int.reduceLT, Int.reduceLE, Int.reduceEq, Int.reduceNeg, Int.reduceMul, Int.reduceSub, Nat.reduceSub, reduceIte, ite_true, ite_false, and_true, true_and, and_self, show ((60 : Nat) : Int) = 60 from rfl]
    exact this
  | succ m ih =>
    intro k G' hk hf hz
    have hlt : ((k : Int) < 60) := by omega
    have := ih (k + 1) (ug G' 77 k 0) (by omega) (fun a ha => by rw [ug_ne ha]; exact hf a ha) (fun i hi => by
      by_cases e : i = k
      · rw [e, ug_at]
      · rw [ug_k e]; exact hz i (by omega))
    rw [show ((k + 1 : Nat) : Int) = (k : Int) + 1 from rfl] at this
    rw [s219_6]
    simp (disch := omega) only [s219_7, s219_9, s219_12, s219_13, s219_14, m219_15_67, m219_15_69, m219_15_71, m219_15_73, m219_15_75, m219_15_77, s219_16, s219_19, Int.toNat_natCast, Int.toNat_natCast, Nat.reduceAdd, Nat.reduceMul, Int.reduceToNat, Int.reduceAdd, Int.reduceLT, Int.reduceLE, Int.reduceEq, Int.reduceNeg, Int.reduceMul, Int.reduceSub, Nat.reduceSub, reduceIte, ite_true, ite_false, and_true, true_and, and_self, hlt]
    exact this
theorem sp41_5 {d N L : Nat} {s n : Int} {B : q_Bv} {G T : q_Gi} (hd : 2 ≤ d) (h : tv G T) : ∃ G', Sp d 41 [.ref 76, vI s, vI n] (hp N L B G) none (hp N L B G') ∧ tv G' (becS T 5 s n) ∧ ∀ a, (a < 66 ∨ 77 < a) → G' a = G a := by
  obtain ⟨r1, X1, hS1, G1, hr1, hX1, hf1, hz1⟩ := E219 (d := d - 1) (X := hp N L B (ug (ug G 76 0 s) 76 1 n)) (a1 := 77) (z2 := 0) (Q := fun r X => ∃ G', r = none ∧ X = hp N L B G' ∧ (∀ a, a ≠ 77 → G' a = ug (ug G 76 0 s) 76 1 n a) ∧ (∀ k, k < 60 → G' 77 k = 0)) (by omega) (by
    have lp := lp219_5 (d := d - 1 - 1) (N := N) (L := L) (B := B) (G := ug (ug G 76 0 s) 76 1 n) (Q := fun r X => ∃ G', r = none ∧ X = hp N L B G' ∧ (∀ a, a ≠ 77 → G' a = ug (ug G 76 0 s) 76 1 n a) ∧ (∀ k, k < 60 → G' 77 k = 0)) (fun G' a b => ⟨G', rfl, rfl, a, b⟩) 60 0 _ (by omega) (fun _ _ => rfl) (fun i hi => by omega)
    simp (disch := omega) only [s219_0, s219_1, s219_2, m219_3_67, m219_3_69, m219_3_71, m219_3_73, m219_3_75, m219_3_77, s219_4, Int.toNat_natCast, Int.toNat_natCast, Nat.reduceAdd, Nat.reduceMul, Int.reduceToNat, Int.reduceAdd, Int.reduceLT, Int.reduceLE, Int.reduceEq, Int.reduceNeg, Int.reduceMul, Int.reduceSub, Nat.reduceSub, reduceIte, ite_true, ite_false, and_true, true_and, and_self]
    exact lp)
  rw [hr1, hX1] at hS1
  refine ⟨G1, ?_, ?_, ?_⟩
  · refine e41 (by omega) ?_
    simp (disch := omega) only [s41_0, s41_1, m41_2_66, m41_2_68, m41_2_70, m41_2_72, m41_2_74, m41_2_76, s41_5, s41_6, m41_7_66, m41_7_68, m41_7_70, m41_7_72, m41_7_74, m41_7_76, s41_10, m41_11_66, m41_11_68, m41_11_70, m41_11_72, m41_11_74, m41_11_76, s41_14, s41_18, Int.toNat_natCast, Int.toNat_natCast, Nat.reduceAdd, Nat.reduceMul, Int.reduceToNat, Int.reduceAdd, Int.reduceLT, Int.reduceLE, Int.reduceEq, Int.reduceNeg, Int.reduceMul, Int.reduceSub, Nat.reduceSub, reduceIte, ite_true, ite_false, and_true, true_and, and_self, c41_15 (by rfl) hS1]
  · refine tv_upd5 h ⟨?_, ?_, ?_⟩ (fun a h1 h2 => by rw [hf1 a h2, ug_ne h1, ug_ne h1]) (fun i hi => ⟨?_, ?_, ?_⟩)
    · rw [hf1 _ (by omega), ug_k (by omega), ug_at]; rfl
    · rw [hf1 _ (by omega), ug_at]; rfl
    · intro k hk; rw [hz1 k hk]; rfl
    · unfold becS; rw [if_neg (by omega), if_neg (by omega), if_neg (by omega)]
    · unfold becS; rw [if_neg (by omega), if_neg (by omega), if_neg (by omega)]
    · intro k hk; unfold becS; rw [if_neg (by omega), if_neg (by omega), if_neg (by omega)]
  · intro a ha
    rw [hf1 a (by omega), ug_ne (by omega), ug_ne (by omega)]
theorem sp42_5 {d N L : Nat} {z : Int} {B : q_Bv} {G T : q_Gi} (hd : 1 ≤ d) (h : tv G T) (ho : Tok T) (hz : -2147483648 ≤ z ∧ z ≤ 2147483647) : Sp d 42 [.ref 76, vI z] (hp N L B G) (some (vI (bI (0 ≤ z ∧ z < T 1 5)))) (hp N L B G) := by
  have o1 := (ho 5 (by omega)).2.1
  obtain ⟨h0, h1, h2, h3, h4, h5⟩ := h
  refine e42 (by omega) ?_
  simp (disch := omega) only [s42_0, s42_1, s42_4, s42_5, m42_6_66, m42_6_68, m42_6_70, m42_6_72, m42_6_74, m42_6_76, s42_9, s42_12, s42_13, s42_16, s42_17, s42_17b, Int.toNat_natCast, Int.toNat_natCast, Nat.reduceAdd, Nat.reduceMul, Int.reduceToNat, Int.reduceAdd, Int.reduceLT, Int.reduceLE, Int.reduceEq, Int.reduceNeg, Int.reduceMul, Int.reduceSub, Nat.reduceSub, reduceIte, ite_true, ite_false, and_true, true_and, and_self, h5.2.1]
  repeat' split
  all_goals first | rw [bI_t (by omega)] | rw [bI_f (by omega)]
theorem sp43_5 {d N L : Nat} {z n : Int} {B : q_Bv} {G T : q_Gi} (hd : 1 ≤ d) (h : tv G T) (ho : Tok T) (hz : -2147483648 ≤ z ∧ z ≤ 2147483647) (hn : -2147483648 ≤ n ∧ n ≤ 2147483647) : Sp d 43 [.ref 76, vI z, vI n] (hp N L B G) (some (vI (bI (0 ≤ z ∧ 0 ≤ n ∧ z ≤ T 1 5 - n)))) (hp N L B G) := by
  have o1 := (ho 5 (by omega)).2.1
  obtain ⟨h0, h1, h2, h3, h4, h5⟩ := h
  refine e43 (by omega) ?_
  by_cases c1 : z < 0
  · simp (disch := omega) only [s43_0, s43_1, s43_4, s43_5, s43_8, s43_9, m43_10_66, m43_10_68, m43_10_70, m43_10_72, m43_10_74, m43_10_76, s43_13, s43_14, s43_15, s43_18, s43_19, s43_22, s43_23, s43_23b, Int.toNat_natCast, Int.toNat_natCast, Nat.reduceAdd, Nat.reduceMul, Int.reduceToNat, Int.reduceAdd, Int.reduceLT, Int.reduceLE, Int.reduceEq, Int.reduceNeg, Int.reduceMul, Int.reduceSub, Nat.reduceSub, reduceIte, ite_true, ite_false, and_true, true_and, and_self, c1]
    rw [bI_f (by omega)]
  · by_cases c2 : n < 0
    · simp (disch := omega) only [s43_0, s43_1, s43_4, s43_5, s43_8, s43_9, m43_10_66, m43_10_68, m43_10_70, m43_10_72, m43_10_74, m43_10_76, s43_13, s43_14, s43_15, s43_18, s43_19, s43_22, s43_23, s43_23b, Int.toNat_natCast, Int.toNat_natCast, Nat.reduceAdd, Nat.reduceMul, Int.reduceToNat, Int.reduceAdd, Int.reduceLT, Int.reduceLE, Int.reduceEq, Int.reduceNeg, Int.reduceMul, Int.reduceSub, Nat.reduceSub, reduceIte, ite_true, ite_false, and_true, true_and, and_self, c1, c2]
      rw [bI_f (by omega)]
    · simp (disch := omega) only [s43_0, s43_1, s43_4, s43_5, s43_8, s43_9, m43_10_66, m43_10_68, m43_10_70, m43_10_72, m43_10_74, m43_10_76, s43_13, s43_14, s43_15, s43_18, s43_19, s43_22, s43_23, s43_23b, Int.toNat_natCast, Int.toNat_natCast, Nat.reduceAdd, Nat.reduceMul, Int.reduceToNat, Int.reduceAdd, Int.reduceLT, Int.reduceLE, Int.reduceEq, Int.reduceNeg, Int.reduceMul, Int.reduceSub, Nat.reduceSub, reduceIte, ite_true, ite_false, and_true, true_and, and_self, c1, c2, h5.2.1]
      repeat' split
      all_goals first | rw [bI_t (by omega)] | rw [bI_f (by omega)]
theorem sp44_5 {d N L : Nat} {z : Int} {B : q_Bv} {G T : q_Gi} (hd : 1 ≤ d) (h : tv G T) (ho : Tok T) (hz : lr z) : Sp d 44 [.ref 76, vL z] (hp N L B G) (some (vL (nrS (T 0 5) z))) (hp N L B G) := by
  have o1 := (ho 5 (by omega)).1
  obtain ⟨h0, h1, h2, h3, h4, h5⟩ := h
  have r1 := i32_r ((Int32.ofInt (l2i z)).toInt8.toInt32)
  have r2 := i32_r ((Int32.ofInt (l2i z)).toInt16.toInt32)
  have r3 := i32_r ((Int64.ofInt z).toInt32)
  change -2147483648 ≤ i2b (l2i z) ∧ i2b (l2i z) ≤ 2147483647 at r1
  change -2147483648 ≤ i2s (l2i z) ∧ i2s (l2i z) ≤ 2147483647 at r2
  change -2147483648 ≤ l2i z ∧ l2i z ≤ 2147483647 at r3
  have hz' : -9223372036854775808 ≤ z ∧ z ≤ 9223372036854775807 := hz
  refine e44 (by omega) ?_
  have o2 : T 0 5 = 0 ∨ T 0 5 = 1 ∨ T 0 5 = 2 ∨ T 0 5 = 3 ∨ (¬ T 0 5 = 0 ∧ ¬ T 0 5 = 1 ∧ ¬ T 0 5 = 2 ∧ ¬ T 0 5 = 3) := by omega
  rcases o2 with o2 | o2 | o2 | o2 | ⟨n0, n1, n2, n3⟩
  · simp (disch := first | omega | assumption) only [s44_0, m44_1_66, m44_1_68, m44_1_70, m44_1_72, m44_1_74, m44_1_76, s44_4, s44_36, s44_37, s44_38, s44_39, s44_40, s44_41, s44_42, s44_43, s44_44, s44_45, s44_46, s44_47, s44_48, s44_49, s44_50, s44_51, s44_52, s44_53, s44_54, s44_55, s44_55b, s44_58, s44_59, s44_62, s44_63, Int.toNat_natCast, Int.toNat_natCast, Nat.reduceAdd, Nat.reduceMul, Int.reduceToNat, Int.reduceAdd, Int.reduceLT, Int.reduceLE, Int.reduceEq, Int.reduceNeg, Int.reduceMul, Int.reduceSub, Nat.reduceSub, reduceIte, ite_true, ite_false, and_true, true_and, and_self, h5.1, o2, nrS]
  · simp (disch := first | omega | assumption) only [s44_0, m44_1_66, m44_1_68, m44_1_70, m44_1_72, m44_1_74, m44_1_76, s44_4, s44_36, s44_37, s44_38, s44_39, s44_40, s44_41, s44_42, s44_43, s44_44, s44_45, s44_46, s44_47, s44_48, s44_49, s44_50, s44_51, s44_52, s44_53, s44_54, s44_55, s44_55b, s44_58, s44_59, s44_62, s44_63, Int.toNat_natCast, Int.toNat_natCast, Nat.reduceAdd, Nat.reduceMul, Int.reduceToNat, Int.reduceAdd, Int.reduceLT, Int.reduceLE, Int.reduceEq, Int.reduceNeg, Int.reduceMul, Int.reduceSub, Nat.reduceSub, reduceIte, ite_true, ite_false, and_true, true_and, and_self, h5.1, o2, nrS]
  · simp (disch := first | omega | assumption) only [s44_0, m44_1_66, m44_1_68, m44_1_70, m44_1_72, m44_1_74, m44_1_76, s44_4, s44_36, s44_37, s44_38, s44_39, s44_40, s44_41, s44_42, s44_43, s44_44, s44_45, s44_46, s44_47, s44_48, s44_49, s44_50, s44_51, s44_52, s44_53, s44_54, s44_55, s44_55b, s44_58, s44_59, s44_62, s44_63, Int.toNat_natCast, Int.toNat_natCast, Nat.reduceAdd, Nat.reduceMul, Int.reduceToNat, Int.reduceAdd, Int.reduceLT, Int.reduceLE, Int.reduceEq, Int.reduceNeg, Int.reduceMul, Int.reduceSub, Nat.reduceSub, reduceIte, ite_true, ite_false, and_true, true_and, and_self, h5.1, o2, nrS]
  · simp (disch := first | omega | assumption) only [s44_0, m44_1_66, m44_1_68, m44_1_70, m44_1_72, m44_1_74, m44_1_76, s44_4, s44_36, s44_37, s44_38, s44_39, s44_40, s44_41, s44_42, s44_43, s44_44, s44_45, s44_46, s44_47, s44_48, s44_49, s44_50, s44_51, s44_52, s44_53, s44_54, s44_55, s44_55b, s44_58, s44_59, s44_62, s44_63, Int.toNat_natCast, Int.toNat_natCast, Nat.reduceAdd, Nat.reduceMul, Int.reduceToNat, Int.reduceAdd, Int.reduceLT, Int.reduceLE, Int.reduceEq, Int.reduceNeg, Int.reduceMul, Int.reduceSub, Nat.reduceSub, reduceIte, ite_true, ite_false, and_true, true_and, and_self, h5.1, o2, nrS]
  · have e0 : cmpz z 0 = 0 ↔ z = 0 := by
      unfold cmpz
      (repeat' split) <;> omega
    have e1 : -2147483648 ≤ cmpz z 0 ∧ cmpz z 0 ≤ 2147483647 := by
      unfold cmpz
      (repeat' split) <;> omega
    simp (disch := first | omega | assumption) only [s44_0, m44_1_66, m44_1_68, m44_1_70, m44_1_72, m44_1_74, m44_1_76, s44_4, s44_36, s44_37, s44_38, s44_39, s44_40, s44_41, s44_42, s44_43, s44_44, s44_45, s44_46, s44_47, s44_48, s44_49, s44_50, s44_51, s44_52, s44_53, s44_54, s44_55, s44_55b, s44_58, s44_59, s44_62, s44_63, Int.toNat_natCast, Int.toNat_natCast, Nat.reduceAdd, Nat.reduceMul, Int.reduceToNat, Int.reduceAdd, Int.reduceLT, Int.reduceLE, Int.reduceEq, Int.reduceNeg, Int.reduceMul, Int.reduceSub, Nat.reduceSub, reduceIte, ite_true, ite_false, and_true, true_and, and_self, h5.1, n0, n1, n2, n3, nrS, e0]
    by_cases c : z = 0
    · rw [if_pos c, if_pos c]
    · rw [if_neg c, if_neg c]
