/-! the class's call judge -/
def judgeS (t : Int) (T H : q_Gi) (j : Nat) (i : Int) : Nat → Nat → Int
  | 0, _ => -5
  | m + 1, k => if 0 ≤ i + (k : Int) ∧ i + (k : Int) < T 1 j then (if (T (2 + j) (i + (k : Int)).toNat = 0 ↔ tunS t H k = false) then judgeS t T H j i m (k + 1) else (k : Int)) else 100 + (k : Int)
def r83 (t : Int) (T H : q_Gi) (z i : Int) : Int := if 0 ≤ z ∧ z < 6 then (if T 0 z.toNat = -1 ∨ T 0 z.toNat = 4 then judgeS t T H z.toNat i (H 0 0).toNat 0 else -12) else -1
theorem lp83_0 {d u N L n : Nat} {t g i : Int} {cl : List (Int × List Int)} {B : q_Bv} {G H T : q_Gi} {R : Int} (hd : 4 ≤ d) (hv : hv1 G H) (ho : Hok H) (hu : G 1 8 = (u : Int)) (hU : upl B N u t g cl) (hT : tv G T) (hTo : Tok T) (hn : H 0 0 = (n : Int)) : ∀ (m k : Nat), k + m = n → (-2147483648 ≤ i + (k : Int) ∧ i + (k : Int) ≤ 2147483647) → judgeS t T H 0 i m k = R → WP d 83 38 [.ref 0, vI 0, vI i, .ref 66, vI k] [] (hp N L B G) (fun r1 X1 => r1 = some (vI R) ∧ X1 = hp N L B G) := by
  intro m
  have hn6 : n ≤ 6 := by have := ho.1; omega
  have hok' := hok1_v hv ho
  have v0 := hv.1
  have o1 := hTo 0 (by omega)
  have w := hT
  obtain ⟨h0, h1, h2, h3, h4, h5⟩ := hT
  induction m with
  | zero =>
    intro k hk hr hR
    have hkn : k = n := by omega
    subst hkn
    have hlt : ¬ ((k : Int) < (k : Int)) := by omega
    simp only [judgeS] at hR
    simp (disch := omega) only [s83_38, s83_40, m83_41, m83_44, s83_47, s83_117, s83_119, Int.toNat_natCast, Int.toNat_natCast, Nat.reduceAdd, Nat.reduceMul, Int.reduceToNat, Int.reduceAdd, Int.reduceLT, Int.reduceLE, Int.reduceEq, Int.reduceNeg, Int.reduceMul, Int.reduceSub, Nat.reduceSub, reduceIte, ite_true, ite_false, and_true, true_and, and_self, v0, hn, hlt]
    rw [hR]
  | succ m ih =>
    intro k hk hr hR
    have hlt : ((k : Int) < (n : Int)) := by omega
    have h42 := sp42_0 (d := d) (N := N) (L := L) (B := B) (z := i + (k : Int)) (by omega) w hTo hr
    have f1 : judgeS t T H 0 i (m + 1) k = (if 0 ≤ i + (k : Int) ∧ i + (k : Int) < T 1 0 then (if (T 2 (i + (k : Int)).toNat = 0 ↔ tunS t H k = false) then judgeS t T H 0 i m (k + 1) else (k : Int)) else 100 + (k : Int)) := rfl
    rw [f1] at hR
    rw [s83_38]
    by_cases c : 0 ≤ i + (k : Int) ∧ i + (k : Int) < T 1 0
    · rw [if_pos c] at hR
      have hk6 : k < 6 := by omega
      have h3' := ho.2.2.2.1 k hk6
      have h9 := sp9_1 (d := d) (L := L) (f := H 3 k) (by omega) hok' hu hU hk6 (by omega)
      rw [hv.2.2.2.1 k hk6, hv.2.2.2.2.1 k hk6] at h9
      change Sp d 9 _ _ (some (vI (bI (tunS t H k = true)))) _ at h9
      have hit := h0.2.2 (i + (k : Int)).toNat (by omega)
      have hrr := o1.2.2.2.1 (i + (k : Int)).toNat (by omega)
      change lr (T 2 (i + (k : Int)).toNat) at hrr
      unfold lr at hrr
      have e0 : cmpz (T 2 (i + (k : Int)).toNat) 0 = 0 ↔ T 2 (i + (k : Int)).toNat = 0 := by
        unfold cmpz
        (repeat' split) <;> omega
      have e1 : -2147483648 ≤ cmpz (T 2 (i + (k : Int)).toNat) 0 ∧ cmpz (T 2 (i + (k : Int)).toNat) 0 ≤ 2147483647 := by
        unfold cmpz
        (repeat' split) <;> omega
      simp (disch := first | omega | assumption) only [s83_40, m83_41, m83_44, s83_47, s83_50, s83_51, s83_52, s83_54, s83_58, s83_58b, s83_61, s83_63, s83_65, s83_66, s83_67, m83_68_66, m83_68_68, m83_68_70, m83_68_72, m83_68_74, m83_68_76, s83_71, s83_72, s83_74, m83_75_67, m83_75_69, m83_75_71, m83_75_73, m83_75_75, m83_75_77, s83_76, s83_77, s83_78, s83_78b, s83_81, s83_82, s83_85, s83_86, m83_87, s83_90, s83_92, m83_93, m83_96, s83_99, m83_101, s83_105, s83_105b, Int.toNat_natCast, Int.toNat_natCast, Nat.reduceAdd, Nat.reduceMul, Int.reduceToNat, Int.reduceAdd, Int.reduceLT, Int.reduceLE, Int.reduceEq, Int.reduceNeg, Int.reduceMul, Int.reduceSub, Nat.reduceSub, reduceIte, ite_true, ite_false, and_true, true_and, and_self, v0, hn, hlt, m83_55_66 h42, c, hit, hv.2.2.2.2.2.1 k hk6, m83_102 h9, e0]
      have fin : ∀ s : Bool, (T 2 (i + (k : Int)).toNat = 0 ↔ s = false) → (if T 2 (i + (k : Int)).toNat = 0 then (0 : Int) else 1) = bI (s = true) := by
        intro s hs
        cases s <;> by_cases cc : T 2 (i + (k : Int)).toNat = 0 <;> simp_all [bI]
      by_cases c2 : (T 2 (i + (k : Int)).toNat = 0 ↔ tunS t H k = false)
      · rw [if_pos c2] at hR
        have := ih (k + 1) (by omega) (by omega) hR
        rw [show ((k + 1 : Nat) : Int) = (k : Int) + 1 from rfl] at this
        by_cases c3 : T 2 (i + (k : Int)).toNat = 0
        · have c4 := c2.mp c3
          rw [if_pos c3]
          simp (disch := first | omega | assumption) only [s83_85, s83_86, m83_87, s83_90, s83_92, m83_93, m83_96, s83_99, m83_101, s83_105, s83_105b, s83_108, s83_110, s83_111, s83_114, Int.toNat_natCast, Int.toNat_natCast, Nat.reduceAdd, Nat.reduceMul, Int.reduceToNat, Int.reduceAdd, Int.reduceLT, Int.reduceLE, Int.reduceEq, Int.reduceNeg, Int.reduceMul, Int.reduceSub, Nat.reduceSub, reduceIte, ite_true, ite_false, and_true, true_and, and_self, m83_102 h9, hv.2.2.2.2.2.1 k hk6, c4, Bool.false_eq_true, bI]
          exact this
        · have c4 : tunS t H k = true := by cases h : tunS t H k <;> simp_all
          rw [if_neg c3]
          simp (disch := first | omega | assumption) only [s83_81, s83_82, s83_85, s83_86, m83_87, s83_90, s83_92, m83_93, m83_96, s83_99, m83_101, s83_105, s83_105b, s83_108, s83_110, s83_111, s83_114, Int.toNat_natCast, Int.toNat_natCast, Nat.reduceAdd, Nat.reduceMul, Int.reduceToNat, Int.reduceAdd, Int.reduceLT, Int.reduceLE, Int.reduceEq, Int.reduceNeg, Int.reduceMul, Int.reduceSub, Nat.reduceSub, reduceIte, ite_true, ite_false, and_true, true_and, and_self, m83_102 h9, hv.2.2.2.2.2.1 k hk6, c4, bI]
          exact this
      · rw [if_neg c2] at hR
        by_cases c3 : T 2 (i + (k : Int)).toNat = 0
        · have c4 : tunS t H k = true := by cases h : tunS t H k <;> simp_all
          rw [if_pos c3]
          simp (disch := first | omega | assumption) only [s83_85, s83_86, m83_87, s83_90, s83_92, m83_93, m83_96, s83_99, m83_101, s83_105, s83_105b, s83_108, s83_110, s83_111, s83_114, Int.toNat_natCast, Int.toNat_natCast, Nat.reduceAdd, Nat.reduceMul, Int.reduceToNat, Int.reduceAdd, Int.reduceLT, Int.reduceLE, Int.reduceEq, Int.reduceNeg, Int.reduceMul, Int.reduceSub, Nat.reduceSub, reduceIte, ite_true, ite_false, and_true, true_and, and_self, m83_102 h9, hv.2.2.2.2.2.1 k hk6, c4, bI]
          rw [hR]
        · have c4 : tunS t H k = false := by cases h : tunS t H k <;> simp_all
          rw [if_neg c3]
          simp (disch := first | omega | assumption) only [s83_81, s83_82, s83_85, s83_86, m83_87, s83_90, s83_92, m83_93, m83_96, s83_99, m83_101, s83_105, s83_105b, s83_108, s83_110, s83_111, s83_114, Int.toNat_natCast, Int.toNat_natCast, Nat.reduceAdd, Nat.reduceMul, Int.reduceToNat, Int.reduceAdd, Int.reduceLT, Int.reduceLE, Int.reduceEq, Int.reduceNeg, Int.reduceMul, Int.reduceSub, Nat.reduceSub, reduceIte, ite_true, ite_false, and_true, true_and, and_self, m83_102 h9, hv.2.2.2.2.2.1 k hk6, c4, Bool.false_eq_true, bI]
          rw [hR]
    · rw [if_neg c] at hR
      simp (disch := first | omega | assumption) only [s83_40, m83_41, m83_44, s83_47, s83_50, s83_51, s83_52, s83_54, s83_58, s83_58b, s83_61, s83_63, s83_65, s83_66, Int.toNat_natCast, Int.toNat_natCast, Nat.reduceAdd, Nat.reduceMul, Int.reduceToNat, Int.reduceAdd, Int.reduceLT, Int.reduceLE, Int.reduceEq, Int.reduceNeg, Int.reduceMul, Int.reduceSub, Nat.reduceSub, reduceIte, ite_true, ite_false, and_true, true_and, and_self, v0, hn, hlt, m83_55_66 h42, c]
      rw [hR]
theorem sp83_0 {d u N L : Nat} {t g i : Int} {cl : List (Int × List Int)} {B : q_Bv} {G H T : q_Gi} (hd : 6 ≤ d) (hv : hv1 G H) (ho : Hok H) (hu : G 1 8 = (u : Int)) (hU : upl B N u t g cl) (hT : tv G T) (hTo : Tok T) (hi : -2147483648 ≤ i ∧ i ≤ 2147483647) : Sp d 83 [.ref 0, vI 0, vI i] (hp N L B G) (some (vI (r83 t T H 0 i))) (hp N L B G) := by
  obtain ⟨n, hn⟩ : ∃ n : Nat, H 0 0 = (n : Int) := ⟨(H 0 0).toNat, by have := ho.1; omega⟩
  have h97 := sp97 (d := d - 1) (z := 0) (X := hp N L B G) (by omega) (by omega)
  rw [bI_t (by omega)] at h97
  have o1 := hTo 0 (by omega)
  have lp := lp83_0 (d := d - 1) (u := u) (L := L) (i := i) (by omega) hv ho hu hU hT hTo hn (R := judgeS t T H 0 i n 0) n 0 (by omega) (by omega) rfl
  obtain ⟨h0, h1, h2, h3, h4, h5⟩ := hT
  have e : r83 t T H 0 i = (if T 0 0 = -1 ∨ T 0 0 = 4 then judgeS t T H 0 i n 0 else -12) := by
    unfold r83
    rw [hn]
    rfl
  rw [e]
  refine e83 (by omega) ?_
  by_cases c0 : T 0 0 = -1
  · rw [if_pos (Or.inl c0)]
    simp (disch := omega) only [s83_0, s83_4, s83_4b, s83_7, s83_8, s83_9, m83_10, s83_13, m83_14, s83_15, s83_16, m83_17_66, m83_17_68, m83_17_70, m83_17_72, m83_17_74, m83_17_76, s83_20, s83_21, s83_21b, s83_24, m83_25_66, m83_25_68, m83_25_70, m83_25_72, m83_25_74, m83_25_76, s83_28, s83_29, s83_29b, s83_32, s83_34, s83_35, s83_36, Int.toNat_natCast, Int.toNat_natCast, Nat.reduceAdd, Nat.reduceMul, Int.reduceToNat, Int.reduceAdd, Int.reduceLT, Int.reduceLE, Int.reduceEq, Int.reduceNeg, Int.reduceMul, Int.reduceSub, Nat.reduceSub, reduceIte, ite_true, ite_false, and_true, true_and, and_self, c83_1 h97, tp0, h0.1, c0]
    exact lp
  · by_cases c1 : T 0 0 = 4
    · rw [if_pos (Or.inr c1)]
      simp (disch := omega) only [s83_0, s83_4, s83_4b, s83_7, s83_8, s83_9, m83_10, s83_13, m83_14, s83_15, s83_16, m83_17_66, m83_17_68, m83_17_70, m83_17_72, m83_17_74, m83_17_76, s83_20, s83_21, s83_21b, s83_24, m83_25_66, m83_25_68, m83_25_70, m83_25_72, m83_25_74, m83_25_76, s83_28, s83_29, s83_29b, s83_32, s83_34, s83_35, s83_36, Int.toNat_natCast, Int.toNat_natCast, Nat.reduceAdd, Nat.reduceMul, Int.reduceToNat, Int.reduceAdd, Int.reduceLT, Int.reduceLE, Int.reduceEq, Int.reduceNeg, Int.reduceMul, Int.reduceSub, Nat.reduceSub, reduceIte, ite_true, ite_false, and_true, true_and, and_self, c83_1 h97, tp0, h0.1, c0, c1]
      exact lp
    · rw [if_neg (by omega)]
      simp (disch := omega) only [s83_0, s83_4, s83_4b, s83_7, s83_8, s83_9, m83_10, s83_13, m83_14, s83_15, s83_16, m83_17_66, m83_17_68, m83_17_70, m83_17_72, m83_17_74, m83_17_76, s83_20, s83_21, s83_21b, s83_24, m83_25_66, m83_25_68, m83_25_70, m83_25_72, m83_25_74, m83_25_76, s83_28, s83_29, s83_29b, s83_32, s83_34, s83_35, s83_36, Int.toNat_natCast, Int.toNat_natCast, Nat.reduceAdd, Nat.reduceMul, Int.reduceToNat, Int.reduceAdd, Int.reduceLT, Int.reduceLE, Int.reduceEq, Int.reduceNeg, Int.reduceMul, Int.reduceSub, Nat.reduceSub, reduceIte, ite_true, ite_false, and_true, true_and, and_self, c83_1 h97, tp0, h0.1, c0, c1]
theorem lp83_1 {d u N L n : Nat} {t g i : Int} {cl : List (Int × List Int)} {B : q_Bv} {G H T : q_Gi} {R : Int} (hd : 4 ≤ d) (hv : hv1 G H) (ho : Hok H) (hu : G 1 8 = (u : Int)) (hU : upl B N u t g cl) (hT : tv G T) (hTo : Tok T) (hn : H 0 0 = (n : Int)) : ∀ (m k : Nat), k + m = n → (-2147483648 ≤ i + (k : Int) ∧ i + (k : Int) ≤ 2147483647) → judgeS t T H 1 i m k = R → WP d 83 38 [.ref 0, vI 1, vI i, .ref 68, vI k] [] (hp N L B G) (fun r1 X1 => r1 = some (vI R) ∧ X1 = hp N L B G) := by
  intro m
  have hn6 : n ≤ 6 := by have := ho.1; omega
  have hok' := hok1_v hv ho
  have v0 := hv.1
  have o1 := hTo 1 (by omega)
  have w := hT
  obtain ⟨h0, h1, h2, h3, h4, h5⟩ := hT
  induction m with
  | zero =>
    intro k hk hr hR
    have hkn : k = n := by omega
    subst hkn
    have hlt : ¬ ((k : Int) < (k : Int)) := by omega
    simp only [judgeS] at hR
    simp (disch := omega) only [s83_38, s83_40, m83_41, m83_44, s83_47, s83_117, s83_119, Int.toNat_natCast, Int.toNat_natCast, Nat.reduceAdd, Nat.reduceMul, Int.reduceToNat, Int.reduceAdd, Int.reduceLT, Int.reduceLE, Int.reduceEq, Int.reduceNeg, Int.reduceMul, Int.reduceSub, Nat.reduceSub, reduceIte, ite_true, ite_false, and_true, true_and, and_self, v0, hn, hlt]
    rw [hR]
  | succ m ih =>
    intro k hk hr hR
    have hlt : ((k : Int) < (n : Int)) := by omega
    have h42 := sp42_1 (d := d) (N := N) (L := L) (B := B) (z := i + (k : Int)) (by omega) w hTo hr
    have f1 : judgeS t T H 1 i (m + 1) k = (if 0 ≤ i + (k : Int) ∧ i + (k : Int) < T 1 1 then (if (T 3 (i + (k : Int)).toNat = 0 ↔ tunS t H k = false) then judgeS t T H 1 i m (k + 1) else (k : Int)) else 100 + (k : Int)) := rfl
    rw [f1] at hR
    rw [s83_38]
    by_cases c : 0 ≤ i + (k : Int) ∧ i + (k : Int) < T 1 1
    · rw [if_pos c] at hR
      have hk6 : k < 6 := by omega
      have h3' := ho.2.2.2.1 k hk6
      have h9 := sp9_1 (d := d) (L := L) (f := H 3 k) (by omega) hok' hu hU hk6 (by omega)
      rw [hv.2.2.2.1 k hk6, hv.2.2.2.2.1 k hk6] at h9
      change Sp d 9 _ _ (some (vI (bI (tunS t H k = true)))) _ at h9
      have hit := h1.2.2 (i + (k : Int)).toNat (by omega)
      have hrr := o1.2.2.2.1 (i + (k : Int)).toNat (by omega)
      change lr (T 3 (i + (k : Int)).toNat) at hrr
      unfold lr at hrr
      have e0 : cmpz (T 3 (i + (k : Int)).toNat) 0 = 0 ↔ T 3 (i + (k : Int)).toNat = 0 := by
        unfold cmpz
        (repeat' split) <;> omega
      have e1 : -2147483648 ≤ cmpz (T 3 (i + (k : Int)).toNat) 0 ∧ cmpz (T 3 (i + (k : Int)).toNat) 0 ≤ 2147483647 := by
        unfold cmpz
        (repeat' split) <;> omega
      simp (disch := first | omega | assumption) only [s83_40, m83_41, m83_44, s83_47, s83_50, s83_51, s83_52, s83_54, s83_58, s83_58b, s83_61, s83_63, s83_65, s83_66, s83_67, m83_68_66, m83_68_68, m83_68_70, m83_68_72, m83_68_74, m83_68_76, s83_71, s83_72, s83_74, m83_75_67, m83_75_69, m83_75_71, m83_75_73, m83_75_75, m83_75_77, s83_76, s83_77, s83_78, s83_78b, s83_81, s83_82, s83_85, s83_86, m83_87, s83_90, s83_92, m83_93, m83_96, s83_99, m83_101, s83_105, s83_105b, Int.toNat_natCast, Int.toNat_natCast, Nat.reduceAdd, Nat.reduceMul, Int.reduceToNat, Int.reduceAdd, Int.reduceLT, Int.reduceLE, Int.reduceEq, Int.reduceNeg, Int.reduceMul, Int.reduceSub, Nat.reduceSub, reduceIte, ite_true, ite_false, and_true, true_and, and_self, v0, hn, hlt, m83_55_68 h42, c, hit, hv.2.2.2.2.2.1 k hk6, m83_102 h9, e0]
      have fin : ∀ s : Bool, (T 3 (i + (k : Int)).toNat = 0 ↔ s = false) → (if T 3 (i + (k : Int)).toNat = 0 then (0 : Int) else 1) = bI (s = true) := by
        intro s hs
        cases s <;> by_cases cc : T 3 (i + (k : Int)).toNat = 0 <;> simp_all [bI]
      by_cases c2 : (T 3 (i + (k : Int)).toNat = 0 ↔ tunS t H k = false)
      · rw [if_pos c2] at hR
        have := ih (k + 1) (by omega) (by omega) hR
        rw [show ((k + 1 : Nat) : Int) = (k : Int) + 1 from rfl] at this
        by_cases c3 : T 3 (i + (k : Int)).toNat = 0
        · have c4 := c2.mp c3
          rw [if_pos c3]
          simp (disch := first | omega | assumption) only [s83_85, s83_86, m83_87, s83_90, s83_92, m83_93, m83_96, s83_99, m83_101, s83_105, s83_105b, s83_108, s83_110, s83_111, s83_114, Int.toNat_natCast, Int.toNat_natCast, Nat.reduceAdd, Nat.reduceMul, Int.reduceToNat, Int.reduceAdd, Int.reduceLT, Int.reduceLE, Int.reduceEq, Int.reduceNeg, Int.reduceMul, Int.reduceSub, Nat.reduceSub, reduceIte, ite_true, ite_false, and_true, true_and, and_self, m83_102 h9, hv.2.2.2.2.2.1 k hk6, c4, Bool.false_eq_true, bI]
          exact this
        · have c4 : tunS t H k = true := by cases h : tunS t H k <;> simp_all
          rw [if_neg c3]
          simp (disch := first | omega | assumption) only [s83_81, s83_82, s83_85, s83_86, m83_87, s83_90, s83_92, m83_93, m83_96, s83_99, m83_101, s83_105, s83_105b, s83_108, s83_110, s83_111, s83_114, Int.toNat_natCast, Int.toNat_natCast, Nat.reduceAdd, Nat.reduceMul, Int.reduceToNat, Int.reduceAdd, Int.reduceLT, Int.reduceLE, Int.reduceEq, Int.reduceNeg, Int.reduceMul, Int.reduceSub, Nat.reduceSub, reduceIte, ite_true, ite_false, and_true, true_and, and_self, m83_102 h9, hv.2.2.2.2.2.1 k hk6, c4, bI]
          exact this
      · rw [if_neg c2] at hR
        by_cases c3 : T 3 (i + (k : Int)).toNat = 0
        · have c4 : tunS t H k = true := by cases h : tunS t H k <;> simp_all
          rw [if_pos c3]
          simp (disch := first | omega | assumption) only [s83_85, s83_86, m83_87, s83_90, s83_92, m83_93, m83_96, s83_99, m83_101, s83_105, s83_105b, s83_108, s83_110, s83_111, s83_114, Int.toNat_natCast, Int.toNat_natCast, Nat.reduceAdd, Nat.reduceMul, Int.reduceToNat, Int.reduceAdd, Int.reduceLT, Int.reduceLE, Int.reduceEq, Int.reduceNeg, Int.reduceMul, Int.reduceSub, Nat.reduceSub, reduceIte, ite_true, ite_false, and_true, true_and, and_self, m83_102 h9, hv.2.2.2.2.2.1 k hk6, c4, bI]
          rw [hR]
        · have c4 : tunS t H k = false := by cases h : tunS t H k <;> simp_all
          rw [if_neg c3]
          simp (disch := first | omega | assumption) only [s83_81, s83_82, s83_85, s83_86, m83_87, s83_90, s83_92, m83_93, m83_96, s83_99, m83_101, s83_105, s83_105b, s83_108, s83_110, s83_111, s83_114, Int.toNat_natCast, Int.toNat_natCast, Nat.reduceAdd, Nat.reduceMul, Int.reduceToNat, Int.reduceAdd, Int.reduceLT, Int.reduceLE, Int.reduceEq, Int.reduceNeg, Int.reduceMul, Int.reduceSub, Nat.reduceSub, reduceIte, ite_true, ite_false, and_true, true_and, and_self, m83_102 h9, hv.2.2.2.2.2.1 k hk6, c4, Bool.false_eq_true, bI]
          rw [hR]
    · rw [if_neg c] at hR
      simp (disch := first | omega | assumption) only [s83_40, m83_41, m83_44, s83_47, s83_50, s83_51, s83_52, s83_54, s83_58, s83_58b, s83_61, s83_63, s83_65, s83_66, Int.toNat_natCast, Int.toNat_natCast, Nat.reduceAdd, Nat.reduceMul, Int.reduceToNat, Int.reduceAdd, Int.reduceLT, Int.reduceLE, Int.reduceEq, Int.reduceNeg, Int.reduceMul, Int.reduceSub, Nat.reduceSub, reduceIte, ite_true, ite_false, and_true, true_and, and_self, v0, hn, hlt, m83_55_68 h42, c]
      rw [hR]
theorem sp83_1 {d u N L : Nat} {t g i : Int} {cl : List (Int × List Int)} {B : q_Bv} {G H T : q_Gi} (hd : 6 ≤ d) (hv : hv1 G H) (ho : Hok H) (hu : G 1 8 = (u : Int)) (hU : upl B N u t g cl) (hT : tv G T) (hTo : Tok T) (hi : -2147483648 ≤ i ∧ i ≤ 2147483647) : Sp d 83 [.ref 0, vI 1, vI i] (hp N L B G) (some (vI (r83 t T H 1 i))) (hp N L B G) := by
  obtain ⟨n, hn⟩ : ∃ n : Nat, H 0 0 = (n : Int) := ⟨(H 0 0).toNat, by have := ho.1; omega⟩
  have h97 := sp97 (d := d - 1) (z := 1) (X := hp N L B G) (by omega) (by omega)
  rw [bI_t (by omega)] at h97
  have o1 := hTo 1 (by omega)
  have lp := lp83_1 (d := d - 1) (u := u) (L := L) (i := i) (by omega) hv ho hu hU hT hTo hn (R := judgeS t T H 1 i n 0) n 0 (by omega) (by omega) rfl
  obtain ⟨h0, h1, h2, h3, h4, h5⟩ := hT
  have e : r83 t T H 1 i = (if T 0 1 = -1 ∨ T 0 1 = 4 then judgeS t T H 1 i n 0 else -12) := by
    unfold r83
    rw [hn]
    rfl
  rw [e]
  refine e83 (by omega) ?_
  by_cases c0 : T 0 1 = -1
  · rw [if_pos (Or.inl c0)]
    simp (disch := omega) only [s83_0, s83_4, s83_4b, s83_7, s83_8, s83_9, m83_10, s83_13, m83_14, s83_15, s83_16, m83_17_66, m83_17_68, m83_17_70, m83_17_72, m83_17_74, m83_17_76, s83_20, s83_21, s83_21b, s83_24, m83_25_66, m83_25_68, m83_25_70, m83_25_72, m83_25_74, m83_25_76, s83_28, s83_29, s83_29b, s83_32, s83_34, s83_35, s83_36, Int.toNat_natCast, Int.toNat_natCast, Nat.reduceAdd, Nat.reduceMul, Int.reduceToNat, Int.reduceAdd, Int.reduceLT, Int.reduceLE, Int.reduceEq, Int.reduceNeg, Int.reduceMul, Int.reduceSub, Nat.reduceSub, reduceIte, ite_true, ite_false, and_true, true_and, and_self, c83_1 h97, tp1, h1.1, c0]
    exact lp
  · by_cases c1 : T 0 1 = 4
    · rw [if_pos (Or.inr c1)]
      simp (disch := omega) only [s83_0, s83_4, s83_4b, s83_7, s83_8, s83_9, m83_10, s83_13, m83_14, s83_15, s83_16, m83_17_66, m83_17_68, m83_17_70, m83_17_72, m83_17_74, m83_17_76, s83_20, s83_21, s83_21b, s83_24, m83_25_66, m83_25_68, m83_25_70, m83_25_72, m83_25_74, m83_25_76, s83_28, s83_29, s83_29b, s83_32, s83_34, s83_35, s83_36, Int.toNat_natCast, Int.toNat_natCast, Nat.reduceAdd, Nat.reduceMul, Int.reduceToNat, Int.reduceAdd, Int.reduceLT, Int.reduceLE, Int.reduceEq, Int.reduceNeg, Int.reduceMul, Int.reduceSub, Nat.reduceSub, reduceIte, ite_true, ite_false, and_true, true_and, and_self, c83_1 h97, tp1, h1.1, c0, c1]
      exact lp
    · rw [if_neg (by omega)]
      simp (disch := omega) only [s83_0, s83_4, s83_4b, s83_7, s83_8, s83_9, m83_10, s83_13, m83_14, s83_15, s83_16, m83_17_66, m83_17_68, m83_17_70, m83_17_72, m83_17_74, m83_17_76, s83_20, s83_21, s83_21b, s83_24, m83_25_66, m83_25_68, m83_25_70, m83_25_72, m83_25_74, m83_25_76, s83_28, s83_29, s83_29b, s83_32, s83_34, s83_35, s83_36, Int.toNat_natCast, Int.toNat_natCast, Nat.reduceAdd, Nat.reduceMul, Int.reduceToNat, Int.reduceAdd, Int.reduceLT, Int.reduceLE, Int.reduceEq, Int.reduceNeg, Int.reduceMul, Int.reduceSub, Nat.reduceSub, reduceIte, ite_true, ite_false, and_true, true_and, and_self, c83_1 h97, tp1, h1.1, c0, c1]
theorem lp83_2 {d u N L n : Nat} {t g i : Int} {cl : List (Int × List Int)} {B : q_Bv} {G H T : q_Gi} {R : Int} (hd : 4 ≤ d) (hv : hv1 G H) (ho : Hok H) (hu : G 1 8 = (u : Int)) (hU : upl B N u t g cl) (hT : tv G T) (hTo : Tok T) (hn : H 0 0 = (n : Int)) : ∀ (m k : Nat), k + m = n → (-2147483648 ≤ i + (k : Int) ∧ i + (k : Int) ≤ 2147483647) → judgeS t T H 2 i m k = R → WP d 83 38 [.ref 0, vI 2, vI i, .ref 70, vI k] [] (hp N L B G) (fun r1 X1 => r1 = some (vI R) ∧ X1 = hp N L B G) := by
  intro m
  have hn6 : n ≤ 6 := by have := ho.1; omega
  have hok' := hok1_v hv ho
  have v0 := hv.1
  have o1 := hTo 2 (by omega)
  have w := hT
  obtain ⟨h0, h1, h2, h3, h4, h5⟩ := hT
  induction m with
  | zero =>
    intro k hk hr hR
    have hkn : k = n := by omega
    subst hkn
    have hlt : ¬ ((k : Int) < (k : Int)) := by omega
    simp only [judgeS] at hR
    simp (disch := omega) only [s83_38, s83_40, m83_41, m83_44, s83_47, s83_117, s83_119, Int.toNat_natCast, Int.toNat_natCast, Nat.reduceAdd, Nat.reduceMul, Int.reduceToNat, Int.reduceAdd, Int.reduceLT, Int.reduceLE, Int.reduceEq, Int.reduceNeg, Int.reduceMul, Int.reduceSub, Nat.reduceSub, reduceIte, ite_true, ite_false, and_true, true_and, and_self, v0, hn, hlt]
    rw [hR]
  | succ m ih =>
    intro k hk hr hR
    have hlt : ((k : Int) < (n : Int)) := by omega
    have h42 := sp42_2 (d := d) (N := N) (L := L) (B := B) (z := i + (k : Int)) (by omega) w hTo hr
    have f1 : judgeS t T H 2 i (m + 1) k = (if 0 ≤ i + (k : Int) ∧ i + (k : Int) < T 1 2 then (if (T 4 (i + (k : Int)).toNat = 0 ↔ tunS t H k = false) then judgeS t T H 2 i m (k + 1) else (k : Int)) else 100 + (k : Int)) := rfl
    rw [f1] at hR
    rw [s83_38]
    by_cases c : 0 ≤ i + (k : Int) ∧ i + (k : Int) < T 1 2
    · rw [if_pos c] at hR
      have hk6 : k < 6 := by omega
      have h3' := ho.2.2.2.1 k hk6
      have h9 := sp9_1 (d := d) (L := L) (f := H 3 k) (by omega) hok' hu hU hk6 (by omega)
      rw [hv.2.2.2.1 k hk6, hv.2.2.2.2.1 k hk6] at h9
      change Sp d 9 _ _ (some (vI (bI (tunS t H k = true)))) _ at h9
      have hit := h2.2.2 (i + (k : Int)).toNat (by omega)
      have hrr := o1.2.2.2.1 (i + (k : Int)).toNat (by omega)
      change lr (T 4 (i + (k : Int)).toNat) at hrr
      unfold lr at hrr
      have e0 : cmpz (T 4 (i + (k : Int)).toNat) 0 = 0 ↔ T 4 (i + (k : Int)).toNat = 0 := by
        unfold cmpz
        (repeat' split) <;> omega
      have e1 : -2147483648 ≤ cmpz (T 4 (i + (k : Int)).toNat) 0 ∧ cmpz (T 4 (i + (k : Int)).toNat) 0 ≤ 2147483647 := by
        unfold cmpz
        (repeat' split) <;> omega
      simp (disch := first | omega | assumption) only [s83_40, m83_41, m83_44, s83_47, s83_50, s83_51, s83_52, s83_54, s83_58, s83_58b, s83_61, s83_63, s83_65, s83_66, s83_67, m83_68_66, m83_68_68, m83_68_70, m83_68_72, m83_68_74, m83_68_76, s83_71, s83_72, s83_74, m83_75_67, m83_75_69, m83_75_71, m83_75_73, m83_75_75, m83_75_77, s83_76, s83_77, s83_78, s83_78b, s83_81, s83_82, s83_85, s83_86, m83_87, s83_90, s83_92, m83_93, m83_96, s83_99, m83_101, s83_105, s83_105b, Int.toNat_natCast, Int.toNat_natCast, Nat.reduceAdd, Nat.reduceMul, Int.reduceToNat, Int.reduceAdd, Int.reduceLT, Int.reduceLE, Int.reduceEq, Int.reduceNeg, Int.reduceMul, Int.reduceSub, Nat.reduceSub, reduceIte, ite_true, ite_false, and_true, true_and, and_self, v0, hn, hlt, m83_55_70 h42, c, hit, hv.2.2.2.2.2.1 k hk6, m83_102 h9, e0]
      have fin : ∀ s : Bool, (T 4 (i + (k : Int)).toNat = 0 ↔ s = false) → (if T 4 (i + (k : Int)).toNat = 0 then (0 : Int) else 1) = bI (s = true) := by
        intro s hs
        cases s <;> by_cases cc : T 4 (i + (k : Int)).toNat = 0 <;> simp_all [bI]
      by_cases c2 : (T 4 (i + (k : Int)).toNat = 0 ↔ tunS t H k = false)
      · rw [if_pos c2] at hR
        have := ih (k + 1) (by omega) (by omega) hR
        rw [show ((k + 1 : Nat) : Int) = (k : Int) + 1 from rfl] at this
        by_cases c3 : T 4 (i + (k : Int)).toNat = 0
        · have c4 := c2.mp c3
          rw [if_pos c3]
          simp (disch := first | omega | assumption) only [s83_85, s83_86, m83_87, s83_90, s83_92, m83_93, m83_96, s83_99, m83_101, s83_105, s83_105b, s83_108, s83_110, s83_111, s83_114, Int.toNat_natCast, Int.toNat_natCast, Nat.reduceAdd, Nat.reduceMul, Int.reduceToNat, Int.reduceAdd, Int.reduceLT, Int.reduceLE, Int.reduceEq, Int.reduceNeg, Int.reduceMul, Int.reduceSub, Nat.reduceSub, reduceIte, ite_true, ite_false, and_true, true_and, and_self, m83_102 h9, hv.2.2.2.2.2.1 k hk6, c4, Bool.false_eq_true, bI]
          exact this
        · have c4 : tunS t H k = true := by cases h : tunS t H k <;> simp_all
          rw [if_neg c3]
          simp (disch := first | omega | assumption) only [s83_81, s83_82, s83_85, s83_86, m83_87, s83_90, s83_92, m83_93, m83_96, s83_99, m83_101, s83_105, s83_105b, s83_108, s83_110, s83_111, s83_114, Int.toNat_natCast, Int.toNat_natCast, Nat.reduceAdd, Nat.reduceMul, Int.reduceToNat, Int.reduceAdd, Int.reduceLT, Int.reduceLE, Int.reduceEq, Int.reduceNeg, Int.reduceMul, Int.reduceSub, Nat.reduceSub, reduceIte, ite_true, ite_false, and_true, true_and, and_self, m83_102 h9, hv.2.2.2.2.2.1 k hk6, c4, bI]
          exact this
      · rw [if_neg c2] at hR
        by_cases c3 : T 4 (i + (k : Int)).toNat = 0
        · have c4 : tunS t H k = true := by cases h : tunS t H k <;> simp_all
          rw [if_pos c3]
          simp (disch := first | omega | assumption) only [s83_85, s83_86, m83_87, s83_90, s83_92, m83_93, m83_96, s83_99, m83_101, s83_105, s83_105b, s83_108, s83_110, s83_111, s83_114, Int.toNat_natCast, Int.toNat_natCast, Nat.reduceAdd, Nat.reduceMul, Int.reduceToNat, Int.reduceAdd, Int.reduceLT, Int.reduceLE, Int.reduceEq, Int.reduceNeg, Int.reduceMul, Int.reduceSub, Nat.reduceSub, reduceIte, ite_true, ite_false, and_true, true_and, and_self, m83_102 h9, hv.2.2.2.2.2.1 k hk6, c4, bI]
          rw [hR]
        · have c4 : tunS t H k = false := by cases h : tunS t H k <;> simp_all
          rw [if_neg c3]
          simp (disch := first | omega | assumption) only [s83_81, s83_82, s83_85, s83_86, m83_87, s83_90, s83_92, m83_93, m83_96, s83_99, m83_101, s83_105, s83_105b, s83_108, s83_110, s83_111, s83_114, Int.toNat_natCast, Int.toNat_natCast, Nat.reduceAdd, Nat.reduceMul, Int.reduceToNat, Int.reduceAdd, Int.reduceLT, Int.reduceLE, Int.reduceEq, Int.reduceNeg, Int.reduceMul, Int.reduceSub, Nat.reduceSub, reduceIte, ite_true, ite_false, and_true, true_and, and_self, m83_102 h9, hv.2.2.2.2.2.1 k hk6, c4, Bool.false_eq_true, bI]
          rw [hR]
    · rw [if_neg c] at hR
      simp (disch := first | omega | assumption) only [s83_40, m83_41, m83_44, s83_47, s83_50, s83_51, s83_52, s83_54, s83_58, s83_58b, s83_61, s83_63, s83_65, s83_66, Int.toNat_natCast, Int.toNat_natCast, Nat.reduceAdd, Nat.reduceMul, Int.reduceToNat, Int.reduceAdd, Int.reduceLT, Int.reduceLE, Int.reduceEq, Int.reduceNeg, Int.reduceMul, Int.reduceSub, Nat.reduceSub, reduceIte, ite_true, ite_false, and_true, true_and, and_self, v0, hn, hlt, m83_55_70 h42, c]
      rw [hR]
theorem sp83_2 {d u N L : Nat} {t g i : Int} {cl : List (Int × List Int)} {B : q_Bv} {G H T : q_Gi} (hd : 6 ≤ d) (hv : hv1 G H) (ho : Hok H) (hu : G 1 8 = (u : Int)) (hU : upl B N u t g cl) (hT : tv G T) (hTo : Tok T) (hi : -2147483648 ≤ i ∧ i ≤ 2147483647) : Sp d 83 [.ref 0, vI 2, vI i] (hp N L B G) (some (vI (r83 t T H 2 i))) (hp N L B G) := by
  obtain ⟨n, hn⟩ : ∃ n : Nat, H 0 0 = (n : Int) := ⟨(H 0 0).toNat, by have := ho.1; omega⟩
  have h97 := sp97 (d := d - 1) (z := 2) (X := hp N L B G) (by omega) (by omega)
  rw [bI_t (by omega)] at h97
  have o1 := hTo 2 (by omega)
  have lp := lp83_2 (d := d - 1) (u := u) (L := L) (i := i) (by omega) hv ho hu hU hT hTo hn (R := judgeS t T H 2 i n 0) n 0 (by omega) (by omega) rfl
  obtain ⟨h0, h1, h2, h3, h4, h5⟩ := hT
  have e : r83 t T H 2 i = (if T 0 2 = -1 ∨ T 0 2 = 4 then judgeS t T H 2 i n 0 else -12) := by
    unfold r83
    rw [hn]
    rfl
  rw [e]
  refine e83 (by omega) ?_
  by_cases c0 : T 0 2 = -1
  · rw [if_pos (Or.inl c0)]
    simp (disch := omega) only [s83_0, s83_4, s83_4b, s83_7, s83_8, s83_9, m83_10, s83_13, m83_14, s83_15, s83_16, m83_17_66, m83_17_68, m83_17_70, m83_17_72, m83_17_74, m83_17_76, s83_20, s83_21, s83_21b, s83_24, m83_25_66, m83_25_68, m83_25_70, m83_25_72, m83_25_74, m83_25_76, s83_28, s83_29, s83_29b, s83_32, s83_34, s83_35, s83_36, Int.toNat_natCast, Int.toNat_natCast, Nat.reduceAdd, Nat.reduceMul, Int.reduceToNat, Int.reduceAdd, Int.reduceLT, Int.reduceLE, Int.reduceEq, Int.reduceNeg, Int.reduceMul, Int.reduceSub, Nat.reduceSub, reduceIte, ite_true, ite_false, and_true, true_and, and_self, c83_1 h97, tp2, h2.1, c0]
    exact lp
  · by_cases c1 : T 0 2 = 4
    · rw [if_pos (Or.inr c1)]
      simp (disch := omega) only [s83_0, s83_4, s83_4b, s83_7, s83_8, s83_9, m83_10, s83_13, m83_14, s83_15, s83_16, m83_17_66, m83_17_68, m83_17_70, m83_17_72, m83_17_74, m83_17_76, s83_20, s83_21, s83_21b, s83_24, m83_25_66, m83_25_68, m83_25_70, m83_25_72, m83_25_74, m83_25_76, s83_28, s83_29, s83_29b, s83_32, s83_34, s83_35, s83_36, Int.toNat_natCast, Int.toNat_natCast, Nat.reduceAdd, Nat.reduceMul, Int.reduceToNat, Int.reduceAdd, Int.reduceLT, Int.reduceLE, Int.reduceEq, Int.reduceNeg, Int.reduceMul, Int.reduceSub, Nat.reduceSub, reduceIte, ite_true, ite_false, and_true, true_and, and_self, c83_1 h97, tp2, h2.1, c0, c1]
      exact lp
    · rw [if_neg (by omega)]
      simp (disch := omega) only [s83_0, s83_4, s83_4b, s83_7, s83_8, s83_9, m83_10, s83_13, m83_14, s83_15, s83_16, m83_17_66, m83_17_68, m83_17_70, m83_17_72, m83_17_74, m83_17_76, s83_20, s83_21, s83_21b, s83_24, m83_25_66, m83_25_68, m83_25_70, m83_25_72, m83_25_74, m83_25_76, s83_28, s83_29, s83_29b, s83_32, s83_34, s83_35, s83_36, Int.toNat_natCast, Int.toNat_natCast, Nat.reduceAdd, Nat.reduceMul, Int.reduceToNat, Int.reduceAdd, Int.reduceLT, Int.reduceLE, Int.reduceEq, Int.reduceNeg, Int.reduceMul, Int.reduceSub, Nat.reduceSub, reduceIte, ite_true, ite_false, and_true, true_and, and_self, c83_1 h97, tp2, h2.1, c0, c1]
theorem lp83_3 {d u N L n : Nat} {t g i : Int} {cl : List (Int × List Int)} {B : q_Bv} {G H T : q_Gi} {R : Int} (hd : 4 ≤ d) (hv : hv1 G H) (ho : Hok H) (hu : G 1 8 = (u : Int)) (hU : upl B N u t g cl) (hT : tv G T) (hTo : Tok T) (hn : H 0 0 = (n : Int)) : ∀ (m k : Nat), k + m = n → (-2147483648 ≤ i + (k : Int) ∧ i + (k : Int) ≤ 2147483647) → judgeS t T H 3 i m k = R → WP d 83 38 [.ref 0, vI 3, vI i, .ref 72, vI k] [] (hp N L B G) (fun r1 X1 => r1 = some (vI R) ∧ X1 = hp N L B G) := by
  intro m
  have hn6 : n ≤ 6 := by have := ho.1; omega
  have hok' := hok1_v hv ho
  have v0 := hv.1
  have o1 := hTo 3 (by omega)
  have w := hT
  obtain ⟨h0, h1, h2, h3, h4, h5⟩ := hT
  induction m with
  | zero =>
    intro k hk hr hR
    have hkn : k = n := by omega
    subst hkn
    have hlt : ¬ ((k : Int) < (k : Int)) := by omega
    simp only [judgeS] at hR
    simp (disch := omega) only [s83_38, s83_40, m83_41, m83_44, s83_47, s83_117, s83_119, Int.toNat_natCast, Int.toNat_natCast, Nat.reduceAdd, Nat.reduceMul, Int.reduceToNat, Int.reduceAdd, Int.reduceLT, Int.reduceLE, Int.reduceEq, Int.reduceNeg, Int.reduceMul, Int.reduceSub, Nat.reduceSub, reduceIte, ite_true, ite_false, and_true, true_and, and_self, v0, hn, hlt]
    rw [hR]
  | succ m ih =>
    intro k hk hr hR
    have hlt : ((k : Int) < (n : Int)) := by omega
    have h42 := sp42_3 (d := d) (N := N) (L := L) (B := B) (z := i + (k : Int)) (by omega) w hTo hr
    have f1 : judgeS t T H 3 i (m + 1) k = (if 0 ≤ i + (k : Int) ∧ i + (k : Int) < T 1 3 then (if (T 5 (i + (k : Int)).toNat = 0 ↔ tunS t H k = false) then judgeS t T H 3 i m (k + 1) else (k : Int)) else 100 + (k : Int)) := rfl
    rw [f1] at hR
    rw [s83_38]
    by_cases c : 0 ≤ i + (k : Int) ∧ i + (k : Int) < T 1 3
    · rw [if_pos c] at hR
      have hk6 : k < 6 := by omega
      have h3' := ho.2.2.2.1 k hk6
      have h9 := sp9_1 (d := d) (L := L) (f := H 3 k) (by omega) hok' hu hU hk6 (by omega)
      rw [hv.2.2.2.1 k hk6, hv.2.2.2.2.1 k hk6] at h9
      change Sp d 9 _ _ (some (vI (bI (tunS t H k = true)))) _ at h9
      have hit := h3.2.2 (i + (k : Int)).toNat (by omega)
      have hrr := o1.2.2.2.1 (i + (k : Int)).toNat (by omega)
      change lr (T 5 (i + (k : Int)).toNat) at hrr
      unfold lr at hrr
      have e0 : cmpz (T 5 (i + (k : Int)).toNat) 0 = 0 ↔ T 5 (i + (k : Int)).toNat = 0 := by
        unfold cmpz
        (repeat' split) <;> omega
      have e1 : -2147483648 ≤ cmpz (T 5 (i + (k : Int)).toNat) 0 ∧ cmpz (T 5 (i + (k : Int)).toNat) 0 ≤ 2147483647 := by
        unfold cmpz
        (repeat' split) <;> omega
      simp (disch := first | omega | assumption) only [s83_40, m83_41, m83_44, s83_47, s83_50, s83_51, s83_52, s83_54, s83_58, s83_58b, s83_61, s83_63, s83_65, s83_66, s83_67, m83_68_66, m83_68_68, m83_68_70, m83_68_72, m83_68_74, m83_68_76, s83_71, s83_72, s83_74, m83_75_67, m83_75_69, m83_75_71, m83_75_73, m83_75_75, m83_75_77, s83_76, s83_77, s83_78, s83_78b, s83_81, s83_82, s83_85, s83_86, m83_87, s83_90, s83_92, m83_93, m83_96, s83_99, m83_101, s83_105, s83_105b, Int.toNat_natCast, Int.toNat_natCast, Nat.reduceAdd, Nat.reduceMul, Int.reduceToNat, Int.reduceAdd, Int.reduceLT, Int.reduceLE, Int.reduceEq, Int.reduceNeg, Int.reduceMul, Int.reduceSub, Nat.reduceSub, reduceIte, ite_true, ite_false, and_true, true_and, and_self, v0, hn, hlt, m83_55_72 h42, c, hit, hv.2.2.2.2.2.1 k hk6, m83_102 h9, e0]
      have fin : ∀ s : Bool, (T 5 (i + (k : Int)).toNat = 0 ↔ s = false) → (if T 5 (i + (k : Int)).toNat = 0 then (0 : Int) else 1) = bI (s = true) := by
        intro s hs
        cases s <;> by_cases cc : T 5 (i + (k : Int)).toNat = 0 <;> simp_all [bI]
      by_cases c2 : (T 5 (i + (k : Int)).toNat = 0 ↔ tunS t H k = false)
      · rw [if_pos c2] at hR
        have := ih (k + 1) (by omega) (by omega) hR
        rw [show ((k + 1 : Nat) : Int) = (k : Int) + 1 from rfl] at this
        by_cases c3 : T 5 (i + (k : Int)).toNat = 0
        · have c4 := c2.mp c3
          rw [if_pos c3]
          simp (disch := first | omega | assumption) only [s83_85, s83_86, m83_87, s83_90, s83_92, m83_93, m83_96, s83_99, m83_101, s83_105, s83_105b, s83_108, s83_110, s83_111, s83_114, Int.toNat_natCast, Int.toNat_natCast, Nat.reduceAdd, Nat.reduceMul, Int.reduceToNat, Int.reduceAdd, Int.reduceLT, Int.reduceLE, Int.reduceEq, Int.reduceNeg, Int.reduceMul, Int.reduceSub, Nat.reduceSub, reduceIte, ite_true, ite_false, and_true, true_and, and_self, m83_102 h9, hv.2.2.2.2.2.1 k hk6, c4, Bool.false_eq_true, bI]
          exact this
        · have c4 : tunS t H k = true := by cases h : tunS t H k <;> simp_all
          rw [if_neg c3]
          simp (disch := first | omega | assumption) only [s83_81, s83_82, s83_85, s83_86, m83_87, s83_90, s83_92, m83_93, m83_96, s83_99, m83_101, s83_105, s83_105b, s83_108, s83_110, s83_111, s83_114, Int.toNat_natCast, Int.toNat_natCast, Nat.reduceAdd, Nat.reduceMul, Int.reduceToNat, Int.reduceAdd, Int.reduceLT, Int.reduceLE, Int.reduceEq, Int.reduceNeg, Int.reduceMul, Int.reduceSub, Nat.reduceSub, reduceIte, ite_true, ite_false, and_true, true_and, and_self, m83_102 h9, hv.2.2.2.2.2.1 k hk6, c4, bI]
          exact this
      · rw [if_neg c2] at hR
        by_cases c3 : T 5 (i + (k : Int)).toNat = 0
        · have c4 : tunS t H k = true := by cases h : tunS t H k <;> simp_all
          rw [if_pos c3]
          simp (disch := first | omega | assumption) only [s83_85, s83_86, m83_87, s83_90, s83_92, m83_93, m83_96, s83_99, m83_101, s83_105, s83_105b, s83_108, s83_110, s83_111, s83_114, Int.toNat_natCast, Int.toNat_natCast, Nat.reduceAdd, Nat.reduceMul, Int.reduceToNat, Int.reduceAdd, Int.reduceLT, Int.reduceLE, Int.reduceEq, Int.reduceNeg, Int.reduceMul, Int.reduceSub, Nat.reduceSub, reduceIte, ite_true, ite_false, and_true, true_and, and_self, m83_102 h9, hv.2.2.2.2.2.1 k hk6, c4, bI]
          rw [hR]
        · have c4 : tunS t H k = false := by cases h : tunS t H k <;> simp_all
          rw [if_neg c3]
          simp (disch := first | omega | assumption) only [s83_81, s83_82, s83_85, s83_86, m83_87, s83_90, s83_92, m83_93, m83_96, s83_99, m83_101, s83_105, s83_105b, s83_108, s83_110, s83_111, s83_114, Int.toNat_natCast, Int.toNat_natCast, Nat.reduceAdd, Nat.reduceMul, Int.reduceToNat, Int.reduceAdd, Int.reduceLT, Int.reduceLE, Int.reduceEq, Int.reduceNeg, Int.reduceMul, Int.reduceSub, Nat.reduceSub, reduceIte, ite_true, ite_false, and_true, true_and, and_self, m83_102 h9, hv.2.2.2.2.2.1 k hk6, c4, Bool.false_eq_true, bI]
          rw [hR]
    · rw [if_neg c] at hR
      simp (disch := first | omega | assumption) only [s83_40, m83_41, m83_44, s83_47, s83_50, s83_51, s83_52, s83_54, s83_58, s83_58b, s83_61, s83_63, s83_65, s83_66, Int.toNat_natCast, Int.toNat_natCast, Nat.reduceAdd, Nat.reduceMul, Int.reduceToNat, Int.reduceAdd, Int.reduceLT, Int.reduceLE, Int.reduceEq, Int.reduceNeg, Int.reduceMul, Int.reduceSub, Nat.reduceSub, reduceIte, ite_true, ite_false, and_true, true_and, and_self, v0, hn, hlt, m83_55_72 h42, c]
      rw [hR]
theorem sp83_3 {d u N L : Nat} {t g i : Int} {cl : List (Int × List Int)} {B : q_Bv} {G H T : q_Gi} (hd : 6 ≤ d) (hv : hv1 G H) (ho : Hok H) (hu : G 1 8 = (u : Int)) (hU : upl B N u t g cl) (hT : tv G T) (hTo : Tok T) (hi : -2147483648 ≤ i ∧ i ≤ 2147483647) : Sp d 83 [.ref 0, vI 3, vI i] (hp N L B G) (some (vI (r83 t T H 3 i))) (hp N L B G) := by
  obtain ⟨n, hn⟩ : ∃ n : Nat, H 0 0 = (n : Int) := ⟨(H 0 0).toNat, by have := ho.1; omega⟩
  have h97 := sp97 (d := d - 1) (z := 3) (X := hp N L B G) (by omega) (by omega)
  rw [bI_t (by omega)] at h97
  have o1 := hTo 3 (by omega)
  have lp := lp83_3 (d := d - 1) (u := u) (L := L) (i := i) (by omega) hv ho hu hU hT hTo hn (R := judgeS t T H 3 i n 0) n 0 (by omega) (by omega) rfl
  obtain ⟨h0, h1, h2, h3, h4, h5⟩ := hT
  have e : r83 t T H 3 i = (if T 0 3 = -1 ∨ T 0 3 = 4 then judgeS t T H 3 i n 0 else -12) := by
    unfold r83
    rw [hn]
    rfl
  rw [e]
  refine e83 (by omega) ?_
  by_cases c0 : T 0 3 = -1
  · rw [if_pos (Or.inl c0)]
    simp (disch := omega) only [s83_0, s83_4, s83_4b, s83_7, s83_8, s83_9, m83_10, s83_13, m83_14, s83_15, s83_16, m83_17_66, m83_17_68, m83_17_70, m83_17_72, m83_17_74, m83_17_76, s83_20, s83_21, s83_21b, s83_24, m83_25_66, m83_25_68, m83_25_70, m83_25_72, m83_25_74, m83_25_76, s83_28, s83_29, s83_29b, s83_32, s83_34, s83_35, s83_36, Int.toNat_natCast, Int.toNat_natCast, Nat.reduceAdd, Nat.reduceMul, Int.reduceToNat, Int.reduceAdd, Int.reduceLT, Int.reduceLE, Int.reduceEq, Int.reduceNeg, Int.reduceMul, Int.reduceSub, Nat.reduceSub, reduceIte, ite_true, ite_false, and_true, true_and, and_self, c83_1 h97, tp3, h3.1, c0]
    exact lp
  · by_cases c1 : T 0 3 = 4
    · rw [if_pos (Or.inr c1)]
      simp (disch := omega) only [s83_0, s83_4, s83_4b, s83_7, s83_8, s83_9, m83_10, s83_13, m83_14, s83_15, s83_16, m83_17_66, m83_17_68, m83_17_70, m83_17_72, m83_17_74, m83_17_76, s83_20, s83_21, s83_21b, s83_24, m83_25_66, m83_25_68, m83_25_70, m83_25_72, m83_25_74, m83_25_76, s83_28, s83_29, s83_29b, s83_32, s83_34, s83_35, s83_36, Int.toNat_natCast, Int.toNat_natCast, Nat.reduceAdd, Nat.reduceMul, Int.reduceToNat, Int.reduceAdd, Int.reduceLT, Int.reduceLE, Int.reduceEq, Int.reduceNeg, Int.reduceMul, Int.reduceSub, Nat.reduceSub, reduceIte, ite_true, ite_false, and_true, true_and, and_self, c83_1 h97, tp3, h3.1, c0, c1]
      exact lp
    · rw [if_neg (by omega)]
      simp (disch := omega) only [s83_0, s83_4, s83_4b, s83_7, s83_8, s83_9, m83_10, s83_13, m83_14, s83_15, s83_16, m83_17_66, m83_17_68, m83_17_70, m83_17_72, m83_17_74, m83_17_76, s83_20, s83_21, s83_21b, s83_24, m83_25_66, m83_25_68, m83_25_70, m83_25_72, m83_25_74, m83_25_76, s83_28, s83_29, s83_29b, s83_32, s83_34, s83_35, s83_36, Int.toNat_natCast, Int.toNat_natCast, Nat.reduceAdd, Nat.reduceMul, Int.reduceToNat, Int.reduceAdd, Int.reduceLT, Int.reduceLE, Int.reduceEq, Int.reduceNeg, Int.reduceMul, Int.reduceSub, Nat.reduceSub, reduceIte, ite_true, ite_false, and_true, true_and, and_self, c83_1 h97, tp3, h3.1, c0, c1]
theorem lp83_4 {d u N L n : Nat} {t g i : Int} {cl : List (Int × List Int)} {B : q_Bv} {G H T : q_Gi} {R : Int} (hd : 4 ≤ d) (hv : hv1 G H) (ho : Hok H) (hu : G 1 8 = (u : Int)) (hU : upl B N u t g cl) (hT : tv G T) (hTo : Tok T) (hn : H 0 0 = (n : Int)) : ∀ (m k : Nat), k + m = n → (-2147483648 ≤ i + (k : Int) ∧ i + (k : Int) ≤ 2147483647) → judgeS t T H 4 i m k = R → WP d 83 38 [.ref 0, vI 4, vI i, .ref 74, vI k] [] (hp N L B G) (fun r1 X1 => r1 = some (vI R) ∧ X1 = hp N L B G) := by
  intro m
  have hn6 : n ≤ 6 := by have := ho.1; omega
  have hok' := hok1_v hv ho
  have v0 := hv.1
  have o1 := hTo 4 (by omega)
  have w := hT
  obtain ⟨h0, h1, h2, h3, h4, h5⟩ := hT
  induction m with
  | zero =>
    intro k hk hr hR
    have hkn : k = n := by omega
    subst hkn
    have hlt : ¬ ((k : Int) < (k : Int)) := by omega
    simp only [judgeS] at hR
    simp (disch := omega) only [s83_38, s83_40, m83_41, m83_44, s83_47, s83_117, s83_119, Int.toNat_natCast, Int.toNat_natCast, Nat.reduceAdd, Nat.reduceMul, Int.reduceToNat, Int.reduceAdd, Int.reduceLT, Int.reduceLE, Int.reduceEq, Int.reduceNeg, Int.reduceMul, Int.reduceSub, Nat.reduceSub, reduceIte, ite_true, ite_false, and_true, true_and, and_self, v0, hn, hlt]
    rw [hR]
  | succ m ih =>
    intro k hk hr hR
    have hlt : ((k : Int) < (n : Int)) := by omega
    have h42 := sp42_4 (d := d) (N := N) (L := L) (B := B) (z := i + (k : Int)) (by omega) w hTo hr
    have f1 : judgeS t T H 4 i (m + 1) k = (if 0 ≤ i + (k : Int) ∧ i + (k : Int) < T 1 4 then (if (T 6 (i + (k : Int)).toNat = 0 ↔ tunS t H k = false) then judgeS t T H 4 i m (k + 1) else (k : Int)) else 100 + (k : Int)) := rfl
    rw [f1] at hR
    rw [s83_38]
    by_cases c : 0 ≤ i + (k : Int) ∧ i + (k : Int) < T 1 4
    · rw [if_pos c] at hR
      have hk6 : k < 6 := by omega
      have h3' := ho.2.2.2.1 k hk6
      have h9 := sp9_1 (d := d) (L := L) (f := H 3 k) (by omega) hok' hu hU hk6 (by omega)
      rw [hv.2.2.2.1 k hk6, hv.2.2.2.2.1 k hk6] at h9
      change Sp d 9 _ _ (some (vI (bI (tunS t H k = true)))) _ at h9
      have hit := h4.2.2 (i + (k : Int)).toNat (by omega)
      have hrr := o1.2.2.2.1 (i + (k : Int)).toNat (by omega)
      change lr (T 6 (i + (k : Int)).toNat) at hrr
      unfold lr at hrr
      have e0 : cmpz (T 6 (i + (k : Int)).toNat) 0 = 0 ↔ T 6 (i + (k : Int)).toNat = 0 := by
        unfold cmpz
        (repeat' split) <;> omega
      have e1 : -2147483648 ≤ cmpz (T 6 (i + (k : Int)).toNat) 0 ∧ cmpz (T 6 (i + (k : Int)).toNat) 0 ≤ 2147483647 := by
        unfold cmpz
        (repeat' split) <;> omega
      simp (disch := first | omega | assumption) only [s83_40, m83_41, m83_44, s83_47, s83_50, s83_51, s83_52, s83_54, s83_58, s83_58b, s83_61, s83_63, s83_65, s83_66, s83_67, m83_68_66, m83_68_68, m83_68_70, m83_68_72, m83_68_74, m83_68_76, s83_71, s83_72, s83_74, m83_75_67, m83_75_69, m83_75_71, m83_75_73, m83_75_75, m83_75_77, s83_76, s83_77, s83_78, s83_78b, s83_81, s83_82, s83_85, s83_86, m83_87, s83_90, s83_92, m83_93, m83_96, s83_99, m83_101, s83_105, s83_105b, Int.toNat_natCast, Int.toNat_natCast, Nat.reduceAdd, Nat.reduceMul, Int.reduceToNat, Int.reduceAdd, Int.reduceLT, Int.reduceLE, Int.reduceEq, Int.reduceNeg, Int.reduceMul, Int.reduceSub, Nat.reduceSub, reduceIte, ite_true, ite_false, and_true, true_and, and_self, v0, hn, hlt, m83_55_74 h42, c, hit, hv.2.2.2.2.2.1 k hk6, m83_102 h9, e0]
      have fin : ∀ s : Bool, (T 6 (i + (k : Int)).toNat = 0 ↔ s = false) → (if T 6 (i + (k : Int)).toNat = 0 then (0 : Int) else 1) = bI (s = true) := by
        intro s hs
        cases s <;> by_cases cc : T 6 (i + (k : Int)).toNat = 0 <;> simp_all [bI]
      by_cases c2 : (T 6 (i + (k : Int)).toNat = 0 ↔ tunS t H k = false)
      · rw [if_pos c2] at hR
        have := ih (k + 1) (by omega) (by omega) hR
        rw [show ((k + 1 : Nat) : Int) = (k : Int) + 1 from rfl] at this
        by_cases c3 : T 6 (i + (k : Int)).toNat = 0
        · have c4 := c2.mp c3
          rw [if_pos c3]
          simp (disch := first | omega | assumption) only [s83_85, s83_86, m83_87, s83_90, s83_92, m83_93, m83_96, s83_99, m83_101, s83_105, s83_105b, s83_108, s83_110, s83_111, s83_114, Int.toNat_natCast, Int.toNat_natCast, Nat.reduceAdd, Nat.reduceMul, Int.reduceToNat, Int.reduceAdd, Int.reduceLT, Int.reduceLE, Int.reduceEq, Int.reduceNeg, Int.reduceMul, Int.reduceSub, Nat.reduceSub, reduceIte, ite_true, ite_false, and_true, true_and, and_self, m83_102 h9, hv.2.2.2.2.2.1 k hk6, c4, Bool.false_eq_true, bI]
          exact this
        · have c4 : tunS t H k = true := by cases h : tunS t H k <;> simp_all
          rw [if_neg c3]
          simp (disch := first | omega | assumption) only [s83_81, s83_82, s83_85, s83_86, m83_87, s83_90, s83_92, m83_93, m83_96, s83_99, m83_101, s83_105, s83_105b, s83_108, s83_110, s83_111, s83_114, Int.toNat_natCast, Int.toNat_natCast, Nat.reduceAdd, Nat.reduceMul, Int.reduceToNat, Int.reduceAdd, Int.reduceLT, Int.reduceLE, Int.reduceEq, Int.reduceNeg, Int.reduceMul, Int.reduceSub, Nat.reduceSub, reduceIte, ite_true, ite_false, and_true, true_and, and_self, m83_102 h9, hv.2.2.2.2.2.1 k hk6, c4, bI]
          exact this
      · rw [if_neg c2] at hR
        by_cases c3 : T 6 (i + (k : Int)).toNat = 0
        · have c4 : tunS t H k = true := by cases h : tunS t H k <;> simp_all
          rw [if_pos c3]
          simp (disch := first | omega | assumption) only [s83_85, s83_86, m83_87, s83_90, s83_92, m83_93, m83_96, s83_99, m83_101, s83_105, s83_105b, s83_108, s83_110, s83_111, s83_114, Int.toNat_natCast, Int.toNat_natCast, Nat.reduceAdd, Nat.reduceMul, Int.reduceToNat, Int.reduceAdd, Int.reduceLT, Int.reduceLE, Int.reduceEq, Int.reduceNeg, Int.reduceMul, Int.reduceSub, Nat.reduceSub, reduceIte, ite_true, ite_false, and_true, true_and, and_self, m83_102 h9, hv.2.2.2.2.2.1 k hk6, c4, bI]
          rw [hR]
        · have c4 : tunS t H k = false := by cases h : tunS t H k <;> simp_all
          rw [if_neg c3]
          simp (disch := first | omega | assumption) only [s83_81, s83_82, s83_85, s83_86, m83_87, s83_90, s83_92, m83_93, m83_96, s83_99, m83_101, s83_105, s83_105b, s83_108, s83_110, s83_111, s83_114, Int.toNat_natCast, Int.toNat_natCast, Nat.reduceAdd, Nat.reduceMul, Int.reduceToNat, Int.reduceAdd, Int.reduceLT, Int.reduceLE, Int.reduceEq, Int.reduceNeg, Int.reduceMul, Int.reduceSub, Nat.reduceSub, reduceIte, ite_true, ite_false, and_true, true_and, and_self, m83_102 h9, hv.2.2.2.2.2.1 k hk6, c4, Bool.false_eq_true, bI]
          rw [hR]
    · rw [if_neg c] at hR
      simp (disch := first | omega | assumption) only [s83_40, m83_41, m83_44, s83_47, s83_50, s83_51, s83_52, s83_54, s83_58, s83_58b, s83_61, s83_63, s83_65, s83_66, Int.toNat_natCast, Int.toNat_natCast, Nat.reduceAdd, Nat.reduceMul, Int.reduceToNat, Int.reduceAdd, Int.reduceLT, Int.reduceLE, Int.reduceEq, Int.reduceNeg, Int.reduceMul, Int.reduceSub, Nat.reduceSub, reduceIte, ite_true, ite_false, and_true, true_and, and_self, v0, hn, hlt, m83_55_74 h42, c]
      rw [hR]
theorem sp83_4 {d u N L : Nat} {t g i : Int} {cl : List (Int × List Int)} {B : q_Bv} {G H T : q_Gi} (hd : 6 ≤ d) (hv : hv1 G H) (ho : Hok H) (hu : G 1 8 = (u : Int)) (hU : upl B N u t g cl) (hT : tv G T) (hTo : Tok T) (hi : -2147483648 ≤ i ∧ i ≤ 2147483647) : Sp d 83 [.ref 0, vI 4, vI i] (hp N L B G) (some (vI (r83 t T H 4 i))) (hp N L B G) := by
  obtain ⟨n, hn⟩ : ∃ n : Nat, H 0 0 = (n : Int) := ⟨(H 0 0).toNat, by have := ho.1; omega⟩
  have h97 := sp97 (d := d - 1) (z := 4) (X := hp N L B G) (by omega) (by omega)
  rw [bI_t (by omega)] at h97
  have o1 := hTo 4 (by omega)
  have lp := lp83_4 (d := d - 1) (u := u) (L := L) (i := i) (by omega) hv ho hu hU hT hTo hn (R := judgeS t T H 4 i n 0) n 0 (by omega) (by omega) rfl
  obtain ⟨h0, h1, h2, h3, h4, h5⟩ := hT
  have e : r83 t T H 4 i = (if T 0 4 = -1 ∨ T 0 4 = 4 then judgeS t T H 4 i n 0 else -12) := by
    unfold r83
    rw [hn]
    rfl
  rw [e]
  refine e83 (by omega) ?_
  by_cases c0 : T 0 4 = -1
  · rw [if_pos (Or.inl c0)]
    simp (disch := omega) only [s83_0, s83_4, s83_4b, s83_7, s83_8, s83_9, m83_10, s83_13, m83_14, s83_15, s83_16, m83_17_66, m83_17_68, m83_17_70, m83_17_72, m83_17_74, m83_17_76, s83_20, s83_21, s83_21b, s83_24, m83_25_66, m83_25_68, m83_25_70, m83_25_72, m83_25_74, m83_25_76, s83_28, s83_29, s83_29b, s83_32, s83_34, s83_35, s83_36, Int.toNat_natCast, Int.toNat_natCast, Nat.reduceAdd, Nat.reduceMul, Int.reduceToNat, Int.reduceAdd, Int.reduceLT, Int.reduceLE, Int.reduceEq, Int.reduceNeg, Int.reduceMul, Int.reduceSub, Nat.reduceSub, reduceIte, ite_true, ite_false, and_true, true_and, and_self, c83_1 h97, tp4, h4.1, c0]
    exact lp
  · by_cases c1 : T 0 4 = 4
    · rw [if_pos (Or.inr c1)]
      simp (disch := omega) only [s83_0, s83_4, s83_4b, s83_7, s83_8, s83_9, m83_10, s83_13, m83_14, s83_15, s83_16, m83_17_66, m83_17_68, m83_17_70, m83_17_72, m83_17_74, m83_17_76, s83_20, s83_21, s83_21b, s83_24, m83_25_66, m83_25_68, m83_25_70, m83_25_72, m83_25_74, m83_25_76, s83_28, s83_29, s83_29b, s83_32, s83_34, s83_35, s83_36, Int.toNat_natCast, Int.toNat_natCast, Nat.reduceAdd, Nat.reduceMul, Int.reduceToNat, Int.reduceAdd, Int.reduceLT, Int.reduceLE, Int.reduceEq, Int.reduceNeg, Int.reduceMul, Int.reduceSub, Nat.reduceSub, reduceIte, ite_true, ite_false, and_true, true_and, and_self, c83_1 h97, tp4, h4.1, c0, c1]
      exact lp
    · rw [if_neg (by omega)]
      simp (disch := omega) only [s83_0, s83_4, s83_4b, s83_7, s83_8, s83_9, m83_10, s83_13, m83_14, s83_15, s83_16, m83_17_66, m83_17_68, m83_17_70, m83_17_72, m83_17_74, m83_17_76, s83_20, s83_21, s83_21b, s83_24, m83_25_66, m83_25_68, m83_25_70, m83_25_72, m83_25_74, m83_25_76, s83_28, s83_29, s83_29b, s83_32, s83_34, s83_35, s83_36, Int.toNat_natCast, Int.toNat_natCast, Nat.reduceAdd, Nat.reduceMul, Int.reduceToNat, Int.reduceAdd, Int.reduceLT, Int.reduceLE, Int.reduceEq, Int.reduceNeg, Int.reduceMul, Int.reduceSub, Nat.reduceSub, reduceIte, ite_true, ite_false, and_true, true_and, and_self, c83_1 h97, tp4, h4.1, c0, c1]
theorem lp83_5 {d u N L n : Nat} {t g i : Int} {cl : List (Int × List Int)} {B : q_Bv} {G H T : q_Gi} {R : Int} (hd : 4 ≤ d) (hv : hv1 G H) (ho : Hok H) (hu : G 1 8 = (u : Int)) (hU : upl B N u t g cl) (hT : tv G T) (hTo : Tok T) (hn : H 0 0 = (n : Int)) : ∀ (m k : Nat), k + m = n → (-2147483648 ≤ i + (k : Int) ∧ i + (k : Int) ≤ 2147483647) → judgeS t T H 5 i m k = R → WP d 83 38 [.ref 0, vI 5, vI i, .ref 76, vI k] [] (hp N L B G) (fun r1 X1 => r1 = some (vI R) ∧ X1 = hp N L B G) := by
  intro m
  have hn6 : n ≤ 6 := by have := ho.1; omega
  have hok' := hok1_v hv ho
  have v0 := hv.1
  have o1 := hTo 5 (by omega)
  have w := hT
  obtain ⟨h0, h1, h2, h3, h4, h5⟩ := hT
  induction m with
  | zero =>
    intro k hk hr hR
    have hkn : k = n := by omega
    subst hkn
    have hlt : ¬ ((k : Int) < (k : Int)) := by omega
    simp only [judgeS] at hR
    simp (disch := omega) only [s83_38, s83_40, m83_41, m83_44, s83_47, s83_117, s83_119, Int.toNat_natCast, Int.toNat_natCast, Nat.reduceAdd, Nat.reduceMul, Int.reduceToNat, Int.reduceAdd, Int.reduceLT, Int.reduceLE, Int.reduceEq, Int.reduceNeg, Int.reduceMul, Int.reduceSub, Nat.reduceSub, reduceIte, ite_true, ite_false, and_true, true_and, and_self, v0, hn, hlt]
    rw [hR]
  | succ m ih =>
    intro k hk hr hR
    have hlt : ((k : Int) < (n : Int)) := by omega
    have h42 := sp42_5 (d := d) (N := N) (L := L) (B := B) (z := i + (k : Int)) (by omega) w hTo hr
    have f1 : judgeS t T H 5 i (m + 1) k = (if 0 ≤ i + (k : Int) ∧ i + (k : Int) < T 1 5 then (if (T 7 (i + (k : Int)).toNat = 0 ↔ tunS t H k = false) then judgeS t T H 5 i m (k + 1) else (k : Int)) else 100 + (k : Int)) := rfl
    rw [f1] at hR
    rw [s83_38]
    by_cases c : 0 ≤ i + (k : Int) ∧ i + (k : Int) < T 1 5
    · rw [if_pos c] at hR
      have hk6 : k < 6 := by omega
      have h3' := ho.2.2.2.1 k hk6
      have h9 := sp9_1 (d := d) (L := L) (f := H 3 k) (by omega) hok' hu hU hk6 (by omega)
      rw [hv.2.2.2.1 k hk6, hv.2.2.2.2.1 k hk6] at h9
      change Sp d 9 _ _ (some (vI (bI (tunS t H k = true)))) _ at h9
      have hit := h5.2.2 (i + (k : Int)).toNat (by omega)
      have hrr := o1.2.2.2.1 (i + (k : Int)).toNat (by omega)
      change lr (T 7 (i + (k : Int)).toNat) at hrr
      unfold lr at hrr
      have e0 : cmpz (T 7 (i + (k : Int)).toNat) 0 = 0 ↔ T 7 (i + (k : Int)).toNat = 0 := by
        unfold cmpz
        (repeat' split) <;> omega
      have e1 : -2147483648 ≤ cmpz (T 7 (i + (k : Int)).toNat) 0 ∧ cmpz (T 7 (i + (k : Int)).toNat) 0 ≤ 2147483647 := by
        unfold cmpz
        (repeat' split) <;> omega
      simp (disch := first | omega | assumption) only [s83_40, m83_41, m83_44, s83_47, s83_50, s83_51, s83_52, s83_54, s83_58, s83_58b, s83_61, s83_63, s83_65, s83_66, s83_67, m83_68_66, m83_68_68, m83_68_70, m83_68_72, m83_68_74, m83_68_76, s83_71, s83_72, s83_74, m83_75_67, m83_75_69, m83_75_71, m83_75_73, m83_75_75, m83_75_77, s83_76, s83_77, s83_78, s83_78b, s83_81, s83_82, s83_85, s83_86, m83_87, s83_90, s83_92, m83_93, m83_96, s83_99, m83_101, s83_105, s83_105b, Int.toNat_natCast, Int.toNat_natCast, Nat.reduceAdd, Nat.reduceMul, Int.reduceToNat, Int.reduceAdd, Int.reduceLT, Int.reduceLE, Int.reduceEq, Int.reduceNeg, Int.reduceMul, Int.reduceSub, Nat.reduceSub, reduceIte, ite_true, ite_false, and_true, true_and, and_self, v0, hn, hlt, m83_55_76 h42, c, hit, hv.2.2.2.2.2.1 k hk6, m83_102 h9, e0]
      have fin : ∀ s : Bool, (T 7 (i + (k : Int)).toNat = 0 ↔ s = false) → (if T 7 (i + (k : Int)).toNat = 0 then (0 : Int) else 1) = bI (s = true) := by
        intro s hs
        cases s <;> by_cases cc : T 7 (i + (k : Int)).toNat = 0 <;> simp_all [bI]
      by_cases c2 : (T 7 (i + (k : Int)).toNat = 0 ↔ tunS t H k = false)
      · rw [if_pos c2] at hR
        have := ih (k + 1) (by omega) (by omega) hR
        rw [show ((k + 1 : Nat) : Int) = (k : Int) + 1 from rfl] at this
        by_cases c3 : T 7 (i + (k : Int)).toNat = 0
        · have c4 := c2.mp c3
          rw [if_pos c3]
          simp (disch := first | omega | assumption) only [s83_85, s83_86, m83_87, s83_90, s83_92, m83_93, m83_96, s83_99, m83_101, s83_105, s83_105b, s83_108, s83_110, s83_111, s83_114, Int.toNat_natCast, Int.toNat_natCast, Nat.reduceAdd, Nat.reduceMul, Int.reduceToNat, Int.reduceAdd, Int.reduceLT, Int.reduceLE, Int.reduceEq, Int.reduceNeg, Int.reduceMul, Int.reduceSub, Nat.reduceSub, reduceIte, ite_true, ite_false, and_true, true_and, and_self, m83_102 h9, hv.2.2.2.2.2.1 k hk6, c4, Bool.false_eq_true, bI]
          exact this
        · have c4 : tunS t H k = true := by cases h : tunS t H k <;> simp_all
          rw [if_neg c3]
          simp (disch := first | omega | assumption) only [s83_81, s83_82, s83_85, s83_86, m83_87, s83_90, s83_92, m83_93, m83_96, s83_99, m83_101, s83_105, s83_105b, s83_108, s83_110, s83_111, s83_114, Int.toNat_natCast, Int.toNat_natCast, Nat.reduceAdd, Nat.reduceMul, Int.reduceToNat, Int.reduceAdd, Int.reduceLT, Int.reduceLE, Int.reduceEq, Int.reduceNeg, Int.reduceMul, Int.reduceSub, Nat.reduceSub, reduceIte, ite_true, ite_false, and_true, true_and, and_self, m83_102 h9, hv.2.2.2.2.2.1 k hk6, c4, bI]
          exact this
      · rw [if_neg c2] at hR
        by_cases c3 : T 7 (i + (k : Int)).toNat = 0
        · have c4 : tunS t H k = true := by cases h : tunS t H k <;> simp_all
          rw [if_pos c3]
          simp (disch := first | omega | assumption) only [s83_85, s83_86, m83_87, s83_90, s83_92, m83_93, m83_96, s83_99, m83_101, s83_105, s83_105b, s83_108, s83_110, s83_111, s83_114, Int.toNat_natCast, Int.toNat_natCast, Nat.reduceAdd, Nat.reduceMul, Int.reduceToNat, Int.reduceAdd, Int.reduceLT, Int.reduceLE, Int.reduceEq, Int.reduceNeg, Int.reduceMul, Int.reduceSub, Nat.reduceSub, reduceIte, ite_true, ite_false, and_true, true_and, and_self, m83_102 h9, hv.2.2.2.2.2.1 k hk6, c4, bI]
          rw [hR]
        · have c4 : tunS t H k = false := by cases h : tunS t H k <;> simp_all
          rw [if_neg c3]
          simp (disch := first | omega | assumption) only [s83_81, s83_82, s83_85, s83_86, m83_87, s83_90, s83_92, m83_93, m83_96, s83_99, m83_101, s83_105, s83_105b, s83_108, s83_110, s83_111, s83_114, Int.toNat_natCast, Int.toNat_natCast, Nat.reduceAdd, Nat.reduceMul, Int.reduceToNat, Int.reduceAdd, Int.reduceLT, Int.reduceLE, Int.reduceEq, Int.reduceNeg, Int.reduceMul, Int.reduceSub, Nat.reduceSub, reduceIte, ite_true, ite_false, and_true, true_and, and_self, m83_102 h9, hv.2.2.2.2.2.1 k hk6, c4, Bool.false_eq_true, bI]
          rw [hR]
    · rw [if_neg c] at hR
      simp (disch := first | omega | assumption) only [s83_40, m83_41, m83_44, s83_47, s83_50, s83_51, s83_52, s83_54, s83_58, s83_58b, s83_61, s83_63, s83_65, s83_66, Int.toNat_natCast, Int.toNat_natCast, Nat.reduceAdd, Nat.reduceMul, Int.reduceToNat, Int.reduceAdd, Int.reduceLT, Int.reduceLE, Int.reduceEq, Int.reduceNeg, Int.reduceMul, Int.reduceSub, Nat.reduceSub, reduceIte, ite_true, ite_false, and_true, true_and, and_self, v0, hn, hlt, m83_55_76 h42, c]
      rw [hR]
theorem sp83_5 {d u N L : Nat} {t g i : Int} {cl : List (Int × List Int)} {B : q_Bv} {G H T : q_Gi} (hd : 6 ≤ d) (hv : hv1 G H) (ho : Hok H) (hu : G 1 8 = (u : Int)) (hU : upl B N u t g cl) (hT : tv G T) (hTo : Tok T) (hi : -2147483648 ≤ i ∧ i ≤ 2147483647) : Sp d 83 [.ref 0, vI 5, vI i] (hp N L B G) (some (vI (r83 t T H 5 i))) (hp N L B G) := by
  obtain ⟨n, hn⟩ : ∃ n : Nat, H 0 0 = (n : Int) := ⟨(H 0 0).toNat, by have := ho.1; omega⟩
  have h97 := sp97 (d := d - 1) (z := 5) (X := hp N L B G) (by omega) (by omega)
  rw [bI_t (by omega)] at h97
  have o1 := hTo 5 (by omega)
  have lp := lp83_5 (d := d - 1) (u := u) (L := L) (i := i) (by omega) hv ho hu hU hT hTo hn (R := judgeS t T H 5 i n 0) n 0 (by omega) (by omega) rfl
  obtain ⟨h0, h1, h2, h3, h4, h5⟩ := hT
  have e : r83 t T H 5 i = (if T 0 5 = -1 ∨ T 0 5 = 4 then judgeS t T H 5 i n 0 else -12) := by
    unfold r83
    rw [hn]
    rfl
  rw [e]
  refine e83 (by omega) ?_
  by_cases c0 : T 0 5 = -1
  · rw [if_pos (Or.inl c0)]
    simp (disch := omega) only [s83_0, s83_4, s83_4b, s83_7, s83_8, s83_9, m83_10, s83_13, m83_14, s83_15, s83_16, m83_17_66, m83_17_68, m83_17_70, m83_17_72, m83_17_74, m83_17_76, s83_20, s83_21, s83_21b, s83_24, m83_25_66, m83_25_68, m83_25_70, m83_25_72, m83_25_74, m83_25_76, s83_28, s83_29, s83_29b, s83_32, s83_34, s83_35, s83_36, Int.toNat_natCast, Int.toNat_natCast, Nat.reduceAdd, Nat.reduceMul, Int.reduceToNat, Int.reduceAdd, Int.reduceLT, Int.reduceLE, Int.reduceEq, Int.reduceNeg, Int.reduceMul, Int.reduceSub, Nat.reduceSub, reduceIte, ite_true, ite_false, and_true, true_and, and_self, c83_1 h97, tp5, h5.1, c0]
    exact lp
  · by_cases c1 : T 0 5 = 4
    · rw [if_pos (Or.inr c1)]
      simp (disch := omega) only [s83_0, s83_4, s83_4b, s83_7, s83_8, s83_9, m83_10, s83_13, m83_14, s83_15, s83_16, m83_17_66, m83_17_68, m83_17_70, m83_17_72, m83_17_74, m83_17_76, s83_20, s83_21, s83_21b, s83_24, m83_25_66, m83_25_68, m83_25_70, m83_25_72, m83_25_74, m83_25_76, s83_28, s83_29, s83_29b, s83_32, s83_34, s83_35, s83_36, Int.toNat_natCast, Int.toNat_natCast, Nat.reduceAdd, Nat.reduceMul, Int.reduceToNat, Int.reduceAdd, Int.reduceLT, Int.reduceLE, Int.reduceEq, Int.reduceNeg, Int.reduceMul, Int.reduceSub, Nat.reduceSub, reduceIte, ite_true, ite_false, and_true, true_and, and_self, c83_1 h97, tp5, h5.1, c0, c1]
      exact lp
    · rw [if_neg (by omega)]
      simp (disch := omega) only [s83_0, s83_4, s83_4b, s83_7, s83_8, s83_9, m83_10, s83_13, m83_14, s83_15, s83_16, m83_17_66, m83_17_68, m83_17_70, m83_17_72, m83_17_74, m83_17_76, s83_20, s83_21, s83_21b, s83_24, m83_25_66, m83_25_68, m83_25_70, m83_25_72, m83_25_74, m83_25_76, s83_28, s83_29, s83_29b, s83_32, s83_34, s83_35, s83_36, Int.toNat_natCast, Int.toNat_natCast, Nat.reduceAdd, Nat.reduceMul, Int.reduceToNat, Int.reduceAdd, Int.reduceLT, Int.reduceLE, Int.reduceEq, Int.reduceNeg, Int.reduceMul, Int.reduceSub, Nat.reduceSub, reduceIte, ite_true, ite_false, and_true, true_and, and_self, c83_1 h97, tp5, h5.1, c0, c1]
theorem sp83 {d u N L : Nat} {t g z i : Int} {cl : List (Int × List Int)} {B : q_Bv} {G H T : q_Gi} (hd : 6 ≤ d) (hv : hv1 G H) (ho : Hok H) (hu : G 1 8 = (u : Int)) (hU : upl B N u t g cl) (hT : tv G T) (hTo : Tok T) (hz : -2147483648 ≤ z ∧ z ≤ 2147483647) (hi : -2147483648 ≤ i ∧ i ≤ 2147483647) : Sp d 83 [.ref 0, vI z, vI i] (hp N L B G) (some (vI (r83 t T H z i))) (hp N L B G) := by
  by_cases c : 0 ≤ z ∧ z < 6
  · rcases six c with rfl | rfl | rfl | rfl | rfl | rfl
    · exact sp83_0 hd hv ho hu hU hT hTo hi
    · exact sp83_1 hd hv ho hu hU hT hTo hi
    · exact sp83_2 hd hv ho hu hU hT hTo hi
    · exact sp83_3 hd hv ho hu hU hT hTo hi
    · exact sp83_4 hd hv ho hu hU hT hTo hi
    · exact sp83_5 hd hv ho hu hU hT hTo hi
  · have h97 := sp97 (d := d - 1) (z := z) (X := hp N L B G) (by omega) hz
    refine e83 (by omega) ?_
    simp (disch := omega) only [s83_0, s83_4, s83_4b, s83_7, s83_8, Int.toNat_natCast, Int.toNat_natCast, Nat.reduceAdd, Nat.reduceMul, Int.reduceToNat, Int.reduceAdd, Int.reduceLT, Int.reduceLE, Int.reduceEq, Int.reduceNeg, Int.reduceMul, Int.reduceSub, Nat.reduceSub, reduceIte, ite_true, ite_false, and_true, true_and, and_self, c83_1 h97, c, r83]
