/-! what the class's calls share -/
theorem sp94 {d N L : Nat} {z : Int} {B : q_Bv} {G : q_Gi} (hd : 1 ≤ d) (hz : -2147483648 ≤ z ∧ z ≤ 2147483647) (h0 : 0 ≤ G 1 0 ∧ G 1 0 ≤ 6) : Sp d 94 [.ref 0, vI z] (hp N L B G) (some (vI (bI (0 ≤ z ∧ z < G 1 0)))) (hp N L B G) := by
  refine e94 (by omega) ?_
  simp (disch := omega) only [s94_0, s94_1, s94_4, s94_5, m94_6, m94_9, s94_12, s94_15, s94_16, s94_19, s94_20, s94_20b, Int.toNat_natCast, Int.toNat_natCast, Nat.reduceAdd, Nat.reduceMul, Int.reduceToNat, Int.reduceAdd, Int.reduceLT, Int.reduceLE, Int.reduceEq, Int.reduceNeg, Int.reduceMul, Int.reduceSub, Nat.reduceSub, reduceIte, ite_true, ite_false, and_true, true_and, and_self]
  repeat' split
  all_goals first | rw [bI_t (by omega)] | rw [bI_f (by omega)]
theorem sp95 {d : Nat} {z : Int} {X : q_H} (hd : 1 ≤ d) (hz : -2147483648 ≤ z ∧ z ≤ 2147483647) : Sp d 95 [vI z] X (some (vI (bI (0 ≤ z ∧ z < 4)))) X := by
  refine e95 (by omega) ?_
  simp (disch := omega) only [s95_0, s95_1, s95_4, s95_5, s95_6, s95_9, s95_10, s95_13, s95_14, s95_14b, Int.toNat_natCast, Int.toNat_natCast, Nat.reduceAdd, Nat.reduceMul, Int.reduceToNat, Int.reduceAdd, Int.reduceLT, Int.reduceLE, Int.reduceEq, Int.reduceNeg, Int.reduceMul, Int.reduceSub, Nat.reduceSub, reduceIte, ite_true, ite_false, and_true, true_and, and_self]
  repeat' split
  all_goals first | rw [bI_t (by omega)] | rw [bI_f (by omega)]
theorem sp96 {d : Nat} {z : Int} {X : q_H} (hd : 1 ≤ d) (hz : -2147483648 ≤ z ∧ z ≤ 2147483647) : Sp d 96 [vI z] X (some (vI (bI (0 ≤ z ∧ z < 7)))) X := by
  refine e96 (by omega) ?_
  simp (disch := omega) only [s96_0, s96_1, s96_4, s96_5, s96_7, s96_10, s96_11, s96_14, s96_15, s96_15b, Int.toNat_natCast, Int.toNat_natCast, Nat.reduceAdd, Nat.reduceMul, Int.reduceToNat, Int.reduceAdd, Int.reduceLT, Int.reduceLE, Int.reduceEq, Int.reduceNeg, Int.reduceMul, Int.reduceSub, Nat.reduceSub, reduceIte, ite_true, ite_false, and_true, true_and, and_self]
  repeat' split
  all_goals first | rw [bI_t (by omega)] | rw [bI_f (by omega)]
theorem sp97 {d : Nat} {z : Int} {X : q_H} (hd : 1 ≤ d) (hz : -2147483648 ≤ z ∧ z ≤ 2147483647) : Sp d 97 [vI z] X (some (vI (bI (0 ≤ z ∧ z < 6)))) X := by
  refine e97 (by omega) ?_
  simp (disch := omega) only [s97_0, s97_1, s97_4, s97_5, s97_7, s97_10, s97_11, s97_14, s97_15, s97_15b, Int.toNat_natCast, Int.toNat_natCast, Nat.reduceAdd, Nat.reduceMul, Int.reduceToNat, Int.reduceAdd, Int.reduceLT, Int.reduceLE, Int.reduceEq, Int.reduceNeg, Int.reduceMul, Int.reduceSub, Nat.reduceSub, reduceIte, ite_true, ite_false, and_true, true_and, and_self]
  repeat' split
  all_goals first | rw [bI_t (by omega)] | rw [bI_f (by omega)]
theorem sp98 {d : Nat} {z m : Int} {X : q_H} (hd : 1 ≤ d) (hz : -2147483648 ≤ z ∧ z ≤ 2147483647) (hm : 0 ≤ m ∧ m ≤ 1000) : Sp d 98 [vI z, vI m] X (some (vI (bI (0 ≤ z ∧ z ≤ m)))) X := by
  refine e98 (by omega) ?_
  simp (disch := omega) only [s98_0, s98_1, s98_4, s98_5, s98_6, s98_9, s98_10, s98_13, s98_14, s98_14b, Int.toNat_natCast, Int.toNat_natCast, Nat.reduceAdd, Nat.reduceMul, Int.reduceToNat, Int.reduceAdd, Int.reduceLT, Int.reduceLE, Int.reduceEq, Int.reduceNeg, Int.reduceMul, Int.reduceSub, Nat.reduceSub, reduceIte, ite_true, ite_false, and_true, true_and, and_self]
  repeat' split
  all_goals first | rw [bI_t (by omega)] | rw [bI_f (by omega)]
def underS (k o : Int) : Bool := o = 0 || k = o || (k = 4 && o = 1) || (k = 5 && o = 2) || (k = 6 && o = 3)
theorem sp99 {d : Nat} {k o : Int} {X : q_H} (hd : 1 ≤ d) (hk : 0 ≤ k ∧ k ≤ 6) (ho : 0 ≤ o ∧ o ≤ 6) : Sp d 99 [vI k, vI o] X (some (vI (bI (underS k o = true)))) X := by
  refine e99 (by omega) ?_
  have r0 : q_ro 1002 0 = vI (-1) := rfl
  have r1 : q_ro 1002 1 = vI 0 := rfl
  have r2 : q_ro 1002 2 = vI 0 := rfl
  have r3 : q_ro 1002 3 = vI 0 := rfl
  have r4 : q_ro 1002 4 = vI 1 := rfl
  have r5 : q_ro 1002 5 = vI 2 := rfl
  have r6 : q_ro 1002 6 = vI 3 := rfl
  have hk' : k = 0 ∨ k = 1 ∨ k = 2 ∨ k = 3 ∨ k = 4 ∨ k = 5 ∨ k = 6 := by omega
  have ho' : o = 0 ∨ o = 1 ∨ o = 2 ∨ o = 3 ∨ o = 4 ∨ o = 5 ∨ o = 6 := by omega
  rcases hk' with rfl | rfl | rfl | rfl | rfl | rfl | rfl
  all_goals
    rcases ho' with rfl | rfl | rfl | rfl | rfl | rfl | rfl
    all_goals
      simp (disch := omega) only [s99_0, s99_1, s99_2, s99_3, s99_4, s99_5, s99_6, s99_9, s99_10, s99_13, s99_14, s99_15, s99_15b, s99_18, s99_19, s99_19b, s99_20, s99_23, s99_24, s99_25, s99_26, s99_29, s99_32, s99_33, s99_33b, Int.toNat_natCast, Int.toNat_natCast, Nat.reduceAdd, Nat.reduceMul, Int.reduceToNat, Int.reduceAdd, Int.reduceLT, Int.reduceLE, Int.reduceEq, Int.reduceNeg, Int.reduceMul, Int.reduceSub, Nat.reduceSub, reduceIte, ite_true, ite_false, and_true, true_and, and_self, r0, r1, r2, r3, r4, r5, r6]
      rfl
theorem lp103 {d a b : Nat} {X : q_H} (ha : a ≤ 100000) (hb : 0 < b ∧ b ≤ 100000) : ∀ (k : Nat), k ≤ b → (∀ e, k < e → e ≤ b → ¬ (e ∣ a ∧ e ∣ b)) → WP d 103 2 [vI a, vI b, vI k] [] X (fun r1 X1 => r1 = some (vI (Nat.gcd a b : Int)) ∧ X1 = X) := by
  intro k
  have g1 := Nat.gcd_dvd_left a b
  have g2 := Nat.gcd_dvd_right a b
  have g3 : 0 < Nat.gcd a b := Nat.gcd_pos_of_pos_right a hb.1
  have g4 : Nat.gcd a b ≤ b := Nat.le_of_dvd hb.1 g2
  induction k with
  | zero =>
    intro hk hn
    exact absurd ⟨g1, g2⟩ (hn _ g3 g4)
  | succ k ih =>
    intro hk hn
    by_cases h1 : k = 0
    · subst h1
      have hg : Nat.gcd a b = 1 := by
        by_cases h2 : 1 < Nat.gcd a b
        · exact absurd ⟨g1, g2⟩ (hn _ (by omega) g4)
        · omega
      rw [hg]
      simp (disch := omega) only [s103_2, s103_3, s103_4, s103_27, s103_28, Int.toNat_natCast, Int.toNat_natCast, Nat.reduceAdd, Nat.reduceMul, Int.reduceToNat, Int.reduceAdd, Int.reduceLT, Int.reduceLE, Int.reduceEq, Int.reduceNeg, Int.reduceMul, Int.reduceSub, Nat.reduceSub, reduceIte, ite_true, ite_false, and_true, true_and, and_self, Nat.zero_add, show ((1 : Nat) : Int) = 1 from rfl]
    · have hlt : (1 : Int) < ((k + 1 : Nat) : Int) := by omega
      have em : ∀ x : Nat, ((x : Int) % ((k + 1 : Nat) : Int) = 0) = (k + 1 ∣ x) := by
        intro x
        rw [← Int.natCast_emod]
        apply propext
        constructor
        · intro h; exact Nat.dvd_of_mod_eq_zero (by omega)
        · intro h; rw [Nat.mod_eq_zero_of_dvd h]; rfl
      have ih' := ih (by omega)
      rw [s103_2]
      have r1 : -2147483648 ≤ (a : Int) % ((k + 1 : Nat) : Int) ∧ (a : Int) % ((k + 1 : Nat) : Int) ≤ 2147483647 := by
        rw [← Int.natCast_emod]; have := Nat.mod_lt a (show 0 < k + 1 by omega); omega
      have r2 : -2147483648 ≤ (b : Int) % ((k + 1 : Nat) : Int) ∧ (b : Int) % ((k + 1 : Nat) : Int) ≤ 2147483647 := by
        rw [← Int.natCast_emod]; have := Nat.mod_lt b (show 0 < k + 1 by omega); omega
      simp (disch := first | omega | assumption) only [s103_3, s103_4, s103_7, s103_8, s103_9, s103_10, s103_10b, s103_13, s103_14, s103_15, s103_16, s103_16b, s103_19, s103_20, s103_21, s103_24, Int.toNat_natCast, Int.toNat_natCast, Nat.reduceAdd, Nat.reduceMul, Int.reduceToNat, Int.reduceAdd, Int.reduceLT, Int.reduceLE, Int.reduceEq, Int.reduceNeg, Int.reduceMul, Int.reduceSub, Nat.reduceSub, reduceIte, ite_true, ite_false, and_true, true_and, and_self, hlt, em]
      by_cases d1 : k + 1 ∣ a
      · by_cases d2 : k + 1 ∣ b
        · have hg : Nat.gcd a b = k + 1 := by
            have := Nat.le_of_dvd g3 (Nat.dvd_gcd d1 d2)
            by_cases h3 : k + 1 < Nat.gcd a b
            · exact absurd ⟨g1, g2⟩ (hn _ h3 g4)
            · omega
          rw [if_pos d1, if_pos d2, hg]
        · rw [if_pos d1, if_neg d2, show ((k + 1 : Nat) : Int) + -1 = (k : Int) by omega]
          exact ih' (fun e h1 h2 => by
            by_cases h3 : e = k + 1
            · rw [h3]; exact fun h => d2 h.2
            · exact hn e (by omega) h2)
      · rw [if_neg d1, show ((k + 1 : Nat) : Int) + -1 = (k : Int) by omega]
        exact ih' (fun e h1 h2 => by
          by_cases h3 : e = k + 1
          · rw [h3]; exact fun h => d1 h.1
          · exact hn e (by omega) h2)
theorem sp103 {d a b : Nat} {X : q_H} (hd : 1 ≤ d) (ha : a ≤ 100000) (hb : 0 < b ∧ b ≤ 100000) : Sp d 103 [vI a, vI b] X (some (vI (Nat.gcd a b : Int))) X := by
  refine e103 (by omega) ?_
  simp only [s103_0, s103_1, Int.toNat_natCast, Int.toNat_natCast, Nat.reduceAdd, Nat.reduceMul, Int.reduceToNat, Int.reduceAdd, Int.reduceLT, Int.reduceLE, Int.reduceEq, Int.reduceNeg, Int.reduceMul, Int.reduceSub, Nat.reduceSub, reduceIte, ite_true, ite_false, and_true, true_and, and_self]
  exact lp103 ha hb b (Nat.le_refl b) (fun e h1 h2 => by omega)
def fracS (a b : Nat) (part : Int) : Int := if b = 0 ∨ part < 0 ∨ 1 < part then -9223372036854775808 else if part = 0 then ((a / Nat.gcd a b : Nat) : Int) else ((b / Nat.gcd a b : Nat) : Int)
theorem sp102 {d a b : Nat} {p : Int} {X : q_H} (hd : 2 ≤ d) (ha : a ≤ 100000) (hb : b ≤ 100000) (hz : -2147483648 ≤ p ∧ p ≤ 2147483647) : Sp d 102 [vI a, vI b, vI p] X (some (vL (fracS a b p))) X := by
  refine e102 (by omega) ?_
  by_cases h0 : b = 0
  · subst h0
    simp (disch := omega) only [s102_0, s102_1, s102_4, s102_5, s102_8, s102_9, s102_10, s102_13, s102_16, Int.toNat_natCast, Int.toNat_natCast, Nat.reduceAdd, Nat.reduceMul, Int.reduceToNat, Int.reduceAdd, Int.reduceLT, Int.reduceLE, Int.reduceEq, Int.reduceNeg, Int.reduceMul, Int.reduceSub, Nat.reduceSub, reduceIte, ite_true, ite_false, and_true, true_and, and_self, show ((0 : Nat) : Int) = 0 from rfl, fracS, true_or, if_true]
  · have h1 : 0 < (b : Int) := by omega
    have hg : 0 < Nat.gcd a b := Nat.gcd_pos_of_pos_right a (by omega)
    have hg2 : Nat.gcd a b ≤ b := Nat.le_of_dvd (by omega) (Nat.gcd_dvd_right a b)
    have q1 := Nat.div_le_self a (Nat.gcd a b)
    have q2 := Nat.div_le_self b (Nat.gcd a b)
    have e1 : (a : Int) / (Nat.gcd a b : Int) = ((a / Nat.gcd a b : Nat) : Int) := rfl
    have e2 : (b : Int) / (Nat.gcd a b : Int) = ((b / Nat.gcd a b : Nat) : Int) := rfl
    have r1 : -2147483648 ≤ ((a / Nat.gcd a b : Nat) : Int) ∧ ((a / Nat.gcd a b : Nat) : Int) ≤ 2147483647 := by
      clear e1 e2
      generalize a / Nat.gcd a b = x at q1
      omega
    have r2 : -2147483648 ≤ ((b / Nat.gcd a b : Nat) : Int) ∧ ((b / Nat.gcd a b : Nat) : Int) ≤ 2147483647 := by
      clear e1 e2 r1
      generalize b / Nat.gcd a b = x at q2
      omega
    by_cases p1 : p < 0
    · simp (disch := omega) only [s102_0, s102_1, s102_4, s102_5, s102_8, s102_9, s102_10, s102_13, s102_16, Int.toNat_natCast, Int.toNat_natCast, Nat.reduceAdd, Nat.reduceMul, Int.reduceToNat, Int.reduceAdd, Int.reduceLT, Int.reduceLE, Int.reduceEq, Int.reduceNeg, Int.reduceMul, Int.reduceSub, Nat.reduceSub, reduceIte, ite_true, ite_false, and_true, true_and, and_self, h1, fracS, p1, true_or, or_true, if_true]
    by_cases p2 : 1 < p
    · simp (disch := omega) only [s102_0, s102_1, s102_4, s102_5, s102_8, s102_9, s102_10, s102_13, s102_16, Int.toNat_natCast, Int.toNat_natCast, Nat.reduceAdd, Nat.reduceMul, Int.reduceToNat, Int.reduceAdd, Int.reduceLT, Int.reduceLE, Int.reduceEq, Int.reduceNeg, Int.reduceMul, Int.reduceSub, Nat.reduceSub, reduceIte, ite_true, ite_false, and_true, true_and, and_self, h1, fracS, p1, p2, or_true, if_true]
    by_cases p3 : p = 0
    · subst p3
      simp (disch := first | assumption | omega) only [s102_0, s102_1, s102_4, s102_5, s102_8, s102_9, s102_10, s102_13, s102_16, s102_17, s102_18, s102_22, s102_23, s102_24, s102_24b, s102_27, s102_28, s102_29, s102_30, s102_31, s102_34, s102_35, s102_36, s102_37, s102_38, c102_19 (sp103 (d := d - 1) (X := X) (by omega) ha ⟨by omega, hb⟩), Int.toNat_natCast, Int.toNat_natCast, Nat.reduceAdd, Nat.reduceMul, Int.reduceToNat, Int.reduceAdd, Int.reduceLT, Int.reduceLE, Int.reduceEq, Int.reduceNeg, Int.reduceMul, Int.reduceSub, Nat.reduceSub, reduceIte, ite_true, ite_false, and_true, true_and, and_self, h1, e1, e2, fracS, h0, or_self]
    · simp (disch := first | assumption | omega) only [s102_0, s102_1, s102_4, s102_5, s102_8, s102_9, s102_10, s102_13, s102_16, s102_17, s102_18, s102_22, s102_23, s102_24, s102_24b, s102_27, s102_28, s102_29, s102_30, s102_31, s102_34, s102_35, s102_36, s102_37, s102_38, c102_19 (sp103 (d := d - 1) (X := X) (by omega) ha ⟨by omega, hb⟩), Int.toNat_natCast, Int.toNat_natCast, Nat.reduceAdd, Nat.reduceMul, Int.reduceToNat, Int.reduceAdd, Int.reduceLT, Int.reduceLE, Int.reduceEq, Int.reduceNeg, Int.reduceMul, Int.reduceSub, Nat.reduceSub, reduceIte, ite_true, ite_false, and_true, true_and, and_self, h1, e1, e2, fracS, h0, p1, p2, p3, or_self]
theorem sp100 {d u N L n : Nat} {t g : Int} {cl : List (Int × List Int)} {B : q_Bv} {G H : q_Gi} (hd : 4 ≤ d) (hn : n ≤ 100) (hv : hv1 G H) (ho : Hok H) (hda : H 0 1 + (n : Int) ≤ 20000) (hu : G 1 8 = (u : Int)) (hU : upl B N u t g cl) : ∃ G', Sp d 100 [.ref 0, vI n] (hp N L B G) none (hp N L B G') ∧ hv8 G' (daysS g n H) ∧ Hok (daysS g n H) ∧ G' 8 8 = (u : Int) ∧ ∀ a, (a < 8 ∨ 14 < a) → G' a = G a := by
  have hu7 := (uarr_of hU.1 hU.2.1).2.2.2.2.2
  obtain ⟨G1, h4, hv4, hu4, hf4⟩ := sp4_8 (d := d - 1) (N := N) (L := L) (B := B) (by omega) hv hu (by omega)
  obtain ⟨G2, h15, hv15, ho15, hf15⟩ := sp15_8 (d := d - 1) (L := L) (by omega) hn hv4 ho hda hu4 hU
  refine ⟨G2, ?_, hv15, ho15, by rw [hf15.2, hu4], fun a ha => by rw [hf15.1 a ha, hf4 a (by omega)]⟩
  refine e100 (by omega) ?_
  simp only [s100_0, m100_1, s100_4, m100_5, s100_11, m100_12, s100_15, s100_19, Int.toNat_natCast, Int.toNat_natCast, Nat.reduceAdd, Nat.reduceMul, Int.reduceToNat, Int.reduceAdd, Int.reduceLT, Int.reduceLE, Int.reduceEq, Int.reduceNeg, Int.reduceMul, Int.reduceSub, Nat.reduceSub, reduceIte, ite_true, ite_false, and_true, true_and, and_self, m100_8 h4, m100_16 h15]
