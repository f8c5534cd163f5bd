/-! copies of a hill; a new bell; what is apart -/
theorem cp_ne {G : q_Gi} {s p t r n b : Nat} (h : b ≠ t) : cpG G s p t r n b = G b := by funext j; unfold cpG; rw [if_neg (by omega)]
theorem cp_at {G : q_Gi} {s t n j : Nat} (h : j < n) : cpG G s 0 t 0 n t j = G s j := by unfold cpG; rw [if_pos ⟨rfl, by omega, by omega⟩, Nat.sub_zero, Nat.zero_add]
theorem cp_out {G : q_Gi} {s t n j : Nat} (h : n ≤ j) : cpG G s 0 t 0 n t j = G t j := by unfold cpG; rw [if_neg (by omega)]
theorem sp4_8 {d u N L : Nat} {B : q_Bv} {G H : q_Gi} (hd : 1 ≤ d) (hv : hv1 G H) (hu : G 1 8 = (u : Int)) (hu2 : u ≠ 1004) : ∃ G', Sp d 4 [.ref 8, .ref 1] (hp N L B G) none (hp N L B G') ∧ hv8 G' H ∧ G' 8 8 = (u : Int) ∧ ∀ a, (a < 8 ∨ 13 < a) → G' a = G a := by
  obtain ⟨v0, v6, v7, v1, v2, v3, v4, v5⟩ := hv
  obtain ⟨r, X', hS, G', hr, hX, hq⟩ := E4 (d := d) (X := hp N L B G) (a1 := 8) (a2 := 1) (Q := fun r X => ∃ G', r = none ∧ X = hp N L B G' ∧ hv8 G' H ∧ G' 8 8 = (u : Int) ∧ ∀ a, (a < 8 ∨ 13 < a) → G' a = G a) (by omega) (by
    simp (disch := omega) only [s4_0, s4_1, m4_2_1, m4_2_15, m4_5_1, m4_5_15, m4_5_8, s4_8, m4_9_1, m4_9_15, s4_12, s4_13, m4_14_1, m4_14_15, m4_14_8, s4_17, s4_18, m4_20_16_2, m4_20_16_9, m4_20_2_16, m4_20_2_9, s4_23, m4_24_1, m4_24_15, s4_27, s4_28, m4_29_1, m4_29_15, m4_29_8, s4_32, s4_33, m4_35_17_10, m4_35_17_3, m4_35_3_10, m4_35_3_17, s4_38, m4_39_1, m4_39_15, s4_42, s4_43, m4_44_1, m4_44_15, m4_44_8, s4_47, s4_48, m4_50_18_11, m4_50_18_4, m4_50_4_11, m4_50_4_18, s4_53, m4_54_1, m4_54_15, s4_57, s4_58, m4_59_1, m4_59_15, m4_59_8, s4_62, s4_63, m4_65_19_12, m4_65_19_5, m4_65_5_12, m4_65_5_19, s4_68, m4_69_1, m4_69_15, s4_72, s4_73, m4_74_1, m4_74_15, m4_74_8, s4_77, s4_78, m4_79_20_13, m4_79_20_6, m4_79_6_13, m4_79_6_20, s4_82, s4_83, m4_84_1, m4_84_15, m4_87_1, m4_87_15, m4_87_8, s4_90, s4_91, m4_92_1, m4_92_15, m4_95_1, m4_95_15, m4_95_8, s4_98, s4_99, m4_100_1, m4_100_15, m4_103_1, m4_103_15, m4_103_8, s4_106, Int.toNat_natCast, Int.toNat_natCast, Nat.reduceAdd, Nat.reduceMul, Int.reduceToNat, Int.reduceAdd, Int.reduceLT, Int.reduceLE, Int.reduceEq, Int.reduceNeg, Int.reduceMul, Int.reduceSub, Nat.reduceSub, reduceIte, ite_true, ite_false, and_true, true_and, and_self, ug_ne, ug_k, cp_ne, v0, v6, v7, hu]
    refine ⟨_, rfl, ⟨?_, ?_, ?_, ?_, ?_, ?_, ?_, ?_⟩, ?_, ?_⟩
    · simp (disch := omega) only [ug_ne, ug_k, cp_ne, ug_at]
    · simp (disch := omega) only [ug_ne, ug_k, cp_ne, ug_at]
    · simp (disch := omega) only [ug_ne, ug_k, cp_ne, ug_at]
    · intro k hk; simp (disch := omega) only [ug_ne, cp_ne, cp_at, v1 k hk]
    · intro k hk; simp (disch := omega) only [ug_ne, cp_ne, cp_at, v2 k hk]
    · intro k hk; simp (disch := omega) only [ug_ne, cp_ne, cp_at, v3 k hk]
    · intro k hk; simp (disch := omega) only [ug_ne, cp_ne, cp_at, v4 k hk]
    · intro k hk; simp (disch := omega) only [ug_ne, cp_ne, cp_at, v5 k hk]
    · simp (disch := omega) only [ug_at]
    · intro a ha; simp (disch := omega) only [ug_ne, cp_ne])
  exact ⟨G', by rw [hr, hX] at hS; exact hS, hq⟩
theorem sp4_15 {d u N L : Nat} {B : q_Bv} {G H : q_Gi} (hd : 1 ≤ d) (hv : hv1 G H) (hu : G 1 8 = (u : Int)) (hu2 : u ≠ 1004) : ∃ G', Sp d 4 [.ref 15, .ref 1] (hp N L B G) none (hp N L B G') ∧ hv15 G' H ∧ G' 15 8 = (u : Int) ∧ ∀ a, (a < 15 ∨ 20 < a) → G' a = G a := by
  obtain ⟨v0, v6, v7, v1, v2, v3, v4, v5⟩ := hv
  obtain ⟨r, X', hS, G', hr, hX, hq⟩ := E4 (d := d) (X := hp N L B G) (a1 := 15) (a2 := 1) (Q := fun r X => ∃ G', r = none ∧ X = hp N L B G' ∧ hv15 G' H ∧ G' 15 8 = (u : Int) ∧ ∀ a, (a < 15 ∨ 20 < a) → G' a = G a) (by omega) (by
    simp (disch := omega) only [s4_0, s4_1, m4_2_1, m4_2_15, m4_5_1, m4_5_15, m4_5_8, s4_8, m4_9_1, m4_9_15, s4_12, s4_13, m4_14_1, m4_14_15, m4_14_8, s4_17, s4_18, m4_20_16_2, m4_20_16_9, m4_20_2_16, m4_20_2_9, s4_23, m4_24_1, m4_24_15, s4_27, s4_28, m4_29_1, m4_29_15, m4_29_8, s4_32, s4_33, m4_35_17_10, m4_35_17_3, m4_35_3_10, m4_35_3_17, s4_38, m4_39_1, m4_39_15, s4_42, s4_43, m4_44_1, m4_44_15, m4_44_8, s4_47, s4_48, m4_50_18_11, m4_50_18_4, m4_50_4_11, m4_50_4_18, s4_53, m4_54_1, m4_54_15, s4_57, s4_58, m4_59_1, m4_59_15, m4_59_8, s4_62, s4_63, m4_65_19_12, m4_65_19_5, m4_65_5_12, m4_65_5_19, s4_68, m4_69_1, m4_69_15, s4_72, s4_73, m4_74_1, m4_74_15, m4_74_8, s4_77, s4_78, m4_79_20_13, m4_79_20_6, m4_79_6_13, m4_79_6_20, s4_82, s4_83, m4_84_1, m4_84_15, m4_87_1, m4_87_15, m4_87_8, s4_90, s4_91, m4_92_1, m4_92_15, m4_95_1, m4_95_15, m4_95_8, s4_98, s4_99, m4_100_1, m4_100_15, m4_103_1, m4_103_15, m4_103_8, s4_106, Int.toNat_natCast, Int.toNat_natCast, Nat.reduceAdd, Nat.reduceMul, Int.reduceToNat, Int.reduceAdd, Int.reduceLT, Int.reduceLE, Int.reduceEq, Int.reduceNeg, Int.reduceMul, Int.reduceSub, Nat.reduceSub, reduceIte, ite_true, ite_false, and_true, true_and, and_self, ug_ne, ug_k, cp_ne, v0, v6, v7, hu]
    refine ⟨_, rfl, ⟨?_, ?_, ?_, ?_, ?_, ?_, ?_, ?_⟩, ?_, ?_⟩
    · simp (disch := omega) only [ug_ne, ug_k, cp_ne, ug_at]
    · simp (disch := omega) only [ug_ne, ug_k, cp_ne, ug_at]
    · simp (disch := omega) only [ug_ne, ug_k, cp_ne, ug_at]
    · intro k hk; simp (disch := omega) only [ug_ne, cp_ne, cp_at, v1 k hk]
    · intro k hk; simp (disch := omega) only [ug_ne, cp_ne, cp_at, v2 k hk]
    · intro k hk; simp (disch := omega) only [ug_ne, cp_ne, cp_at, v3 k hk]
    · intro k hk; simp (disch := omega) only [ug_ne, cp_ne, cp_at, v4 k hk]
    · intro k hk; simp (disch := omega) only [ug_ne, cp_ne, cp_at, v5 k hk]
    · simp (disch := omega) only [ug_at]
    · intro a ha; simp (disch := omega) only [ug_ne, cp_ne])
  exact ⟨G', by rw [hr, hX] at hS; exact hS, hq⟩
theorem sp4_1 {d u N L : Nat} {B : q_Bv} {G H : q_Gi} (hd : 1 ≤ d) (hv : hv15 G H) (hu : G 15 8 = (u : Int)) (hu2 : u ≠ 1004) : ∃ G', Sp d 4 [.ref 1, .ref 15] (hp N L B G) none (hp N L B G') ∧ hv1 G' H ∧ G' 1 8 = (u : Int) ∧ ∀ a, (a < 1 ∨ 6 < a) → G' a = G a := by
  obtain ⟨v0, v6, v7, v1, v2, v3, v4, v5⟩ := hv
  obtain ⟨r, X', hS, G', hr, hX, hq⟩ := E4 (d := d) (X := hp N L B G) (a1 := 1) (a2 := 15) (Q := fun r X => ∃ G', r = none ∧ X = hp N L B G' ∧ hv1 G' H ∧ G' 1 8 = (u : Int) ∧ ∀ a, (a < 1 ∨ 6 < a) → G' a = G a) (by omega) (by
    simp (disch := omega) only [s4_0, s4_1, m4_2_1, m4_2_15, m4_5_1, m4_5_15, m4_5_8, s4_8, m4_9_1, m4_9_15, s4_12, s4_13, m4_14_1, m4_14_15, m4_14_8, s4_17, s4_18, m4_20_16_2, m4_20_16_9, m4_20_2_16, m4_20_2_9, s4_23, m4_24_1, m4_24_15, s4_27, s4_28, m4_29_1, m4_29_15, m4_29_8, s4_32, s4_33, m4_35_17_10, m4_35_17_3, m4_35_3_10, m4_35_3_17, s4_38, m4_39_1, m4_39_15, s4_42, s4_43, m4_44_1, m4_44_15, m4_44_8, s4_47, s4_48, m4_50_18_11, m4_50_18_4, m4_50_4_11, m4_50_4_18, s4_53, m4_54_1, m4_54_15, s4_57, s4_58, m4_59_1, m4_59_15, m4_59_8, s4_62, s4_63, m4_65_19_12, m4_65_19_5, m4_65_5_12, m4_65_5_19, s4_68, m4_69_1, m4_69_15, s4_72, s4_73, m4_74_1, m4_74_15, m4_74_8, s4_77, s4_78, m4_79_20_13, m4_79_20_6, m4_79_6_13, m4_79_6_20, s4_82, s4_83, m4_84_1, m4_84_15, m4_87_1, m4_87_15, m4_87_8, s4_90, s4_91, m4_92_1, m4_92_15, m4_95_1, m4_95_15, m4_95_8, s4_98, s4_99, m4_100_1, m4_100_15, m4_103_1, m4_103_15, m4_103_8, s4_106, Int.toNat_natCast, Int.toNat_natCast, Nat.reduceAdd, Nat.reduceMul, Int.reduceToNat, Int.reduceAdd, Int.reduceLT, Int.reduceLE, Int.reduceEq, Int.reduceNeg, Int.reduceMul, Int.reduceSub, Nat.reduceSub, reduceIte, ite_true, ite_false, and_true, true_and, and_self, ug_ne, ug_k, cp_ne, v0, v6, v7, hu]
    refine ⟨_, rfl, ⟨?_, ?_, ?_, ?_, ?_, ?_, ?_, ?_⟩, ?_, ?_⟩
    · simp (disch := omega) only [ug_ne, ug_k, cp_ne, ug_at]
    · simp (disch := omega) only [ug_ne, ug_k, cp_ne, ug_at]
    · simp (disch := omega) only [ug_ne, ug_k, cp_ne, ug_at]
    · intro k hk; simp (disch := omega) only [ug_ne, cp_ne, cp_at, v1 k hk]
    · intro k hk; simp (disch := omega) only [ug_ne, cp_ne, cp_at, v2 k hk]
    · intro k hk; simp (disch := omega) only [ug_ne, cp_ne, cp_at, v3 k hk]
    · intro k hk; simp (disch := omega) only [ug_ne, cp_ne, cp_at, v4 k hk]
    · intro k hk; simp (disch := omega) only [ug_ne, cp_ne, cp_at, v5 k hk]
    · simp (disch := omega) only [ug_at]
    · intro a ha; simp (disch := omega) only [ug_ne, cp_ne])
  exact ⟨G', by rw [hr, hX] at hS; exact hS, hq⟩
theorem cpG_at0 {G : q_Gi} {s t n j : Nat} (h : j < n) : cpG G s 0 t 0 n t j = G s j := cp_at h
def addS (k v fd : Int) (H : q_Gi) : q_Gi := fun f j => if f = 0 ∧ j = 0 then H 0 0 + 1 else if f = 1 ∧ (j : Int) = H 0 0 then k else if f = 2 ∧ (j : Int) = H 0 0 then v else if f = 3 ∧ (j : Int) = H 0 0 then fd else H f j
theorem sp5 {d n N L : Nat} {k v fd : Int} {B : q_Bv} {G H : q_Gi} (hd : 1 ≤ d) (hv : hv1 G H) (hn : H 0 0 = (n : Int)) (hn5 : n < 6) : ∃ G', Sp d 5 [.ref 1, vI k, vI v, vI fd] (hp N L B G) (some (vI n)) (hp N L B G') ∧ hv1 G' (addS k v fd H) ∧ fr1 G G' := by
  obtain ⟨v0, v6, v7, v1, v2, v3, v4, v5⟩ := hv
  obtain ⟨r, X', hS, G', hr, hX, hq⟩ := E5 (d := d) (X := hp N L B G) (z1 := k) (z2 := v) (z3 := fd) (Q := fun r X => ∃ G', r = some (vI n) ∧ X = hp N L B G' ∧ hv1 G' (addS k v fd H) ∧ fr1 G G') (by omega) (by
    simp (disch := omega) only [s5_0, m5_1, s5_4, s5_6, m5_7, s5_10, s5_12, m5_13, s5_14, m5_15, s5_18, s5_20, m5_21, s5_22, m5_23, s5_26, s5_28, m5_29, s5_30, s5_31, m5_32, s5_35, s5_36, m5_37, s5_40, s5_42, Int.toNat_natCast, Int.toNat_natCast, Nat.reduceAdd, Nat.reduceMul, Int.reduceToNat, Int.reduceAdd, Int.reduceLT, Int.reduceLE, Int.reduceEq, Int.reduceNeg, Int.reduceMul, Int.reduceSub, Nat.reduceSub, reduceIte, ite_true, ite_false, and_true, true_and, and_self, ug_ne, ug_k, v0, hn]
    refine ⟨_, rfl, ⟨?_, ?_, ?_, ?_, ?_, ?_, ?_, ?_⟩, ?_, ?_⟩
    · simp only [ug_at]; unfold addS; simp [hn]
    · simp (disch := omega) only [ug_ne, ug_k, v6]; unfold addS; simp
    · simp (disch := omega) only [ug_ne, ug_k, v7]; unfold addS; simp
    · intro j hj
      simp (disch := omega) only [ug_ne]
      by_cases e : j = n
      · subst e; rw [ug_at]; unfold addS; simp [hn]
      · rw [ug_k e, v1 j hj]; unfold addS; simp [hn]; omega
    · intro j hj
      simp (disch := omega) only [ug_ne]
      by_cases e : j = n
      · subst e; rw [ug_at]; unfold addS; simp [hn]
      · rw [ug_k e, ug_ne (by omega), v2 j hj]; unfold addS; simp [hn]; omega
    · intro j hj
      simp (disch := omega) only [ug_ne]
      by_cases e : j = n
      · subst e; rw [ug_at]; unfold addS; simp [hn]
      · rw [ug_k e, ug_ne (by omega), ug_ne (by omega), v3 j hj]; unfold addS; simp [hn]; omega
    · intro j hj; simp (disch := omega) only [ug_ne, v4 j hj]; unfold addS; simp
    · intro j hj; simp (disch := omega) only [ug_ne, v5 j hj]; unfold addS; simp
    · intro a ha; simp (disch := omega) only [ug_ne]
    · simp (disch := omega) only [ug_ne, ug_k])
  exact ⟨G', by rw [hr, hX] at hS; exact hS, hq⟩
/-- the bit k of s -/
def bitS (s : Int) (k : Nat) : Int := iand (ishr s k) 1
/-- v of the first n, those in the set s together less the others together -/
def apS (v : Nat → Int) (s : Int) : Nat → Int
  | 0 => 0
  | n + 1 => apS v s n + (if bitS s n = 1 then v n else -(v n))
theorem apS_r {v : Nat → Int} {s : Int} (hv : ∀ b, b < 6 → 0 ≤ v b ∧ v b ≤ 9) : ∀ n : Nat, n ≤ 6 → -(9 * (n : Int)) ≤ apS v s n ∧ apS v s n ≤ 9 * (n : Int) := by
  intro n
  induction n with
  | zero => intro _; unfold apS; omega
  | succ n ih =>
    intro hn
    have h1 := ih (by omega)
    have h2 := hv n (by omega)
    unfold apS
    split <;> omega
theorem iand1_r (a : Nat) (ha : a < 2147483648) : iand a 1 = ((a % 2 : Nat) : Int) := by
  have := @iand_n a 1 ha (by decide)
  rw [show ((1 : Nat) : Int) = 1 from rfl] at this
  rw [this, Nat.and_one_is_mod]
theorem bitS_n {s k : Nat} (hs : s < 2147483648) (hk : k < 32) : bitS s k = ((s / 2 ^ k % 2 : Nat) : Int) := by
  unfold bitS
  rw [ishr_n hk hs, iand1_r _ (Nat.lt_of_le_of_lt (Nat.div_le_self _ _) hs)]
theorem lp17 {d N L n s : Nat} {B : q_Bv} {G H : q_Gi} (hv : hv1 G H) (ho : Hok H) (hn : H 0 0 = (n : Int)) (hs : s < 2147483648) : ∀ (k i : Nat), i + k = n → WP d 17 4 [.ref 1, vI s, vI (apS (H 2) s i), vI i] [] (hp N L B G) (fun r1 X1 => r1 = some (vI ((apS (H 2) s n).natAbs : Int)) ∧ X1 = hp N L B G) := by
  obtain ⟨v0, v6, v7, v1, v2, v3, v4, v5⟩ := hv
  have hn6 : n ≤ 6 := by have := ho.1; omega
  intro k
  induction k with
  | zero =>
    intro i hi
    have hin : i = n := by omega
    subst hin
    have hr := @apS_r (H 2) s ho.2.2.1 i hn6
    have hlt : ¬ ((i : Int) < (i : Int)) := by omega
    simp (disch := omega) only [s17_4, s17_5, m17_6, s17_9, s17_46, s17_47, s17_50, Int.toNat_natCast, Int.toNat_natCast, Nat.reduceAdd, Nat.reduceMul, Int.reduceToNat, Int.reduceAdd, Int.reduceLT, Int.reduceLE, Int.reduceEq, Int.reduceNeg, Int.reduceMul, Int.reduceSub, Nat.reduceSub, reduceIte, ite_true, ite_false, and_true, true_and, and_self, v0, hn, hlt]
  | succ k ih =>
    intro i hi
    have hi6 : i < 6 := by omega
    have hlt : (i : Int) < (n : Int) := by omega
    have := ih (i + 1) (by omega)
    rw [show ((i + 1 : Nat) : Int) = (i : Int) + 1 from rfl] at this
    have hb : iand (ishr s i) 1 = bitS s i := rfl
    have hbr : -2147483648 ≤ bitS s i ∧ bitS s i ≤ 2147483647 := by rw [bitS_n hs (by omega)]; omega
    rw [show apS (H 2) s (i + 1) = apS (H 2) s i + (if bitS s i = 1 then H 2 i else -(H 2 i)) from rfl] at this
    rw [s17_4]
    simp (disch := omega) only [s17_5, m17_6, s17_9, s17_12, s17_13, s17_14, s17_15, s17_16, s17_17, s17_18, s17_19, s17_19b, s17_22, m17_23, s17_26, m17_27, s17_28, s17_31, m17_32, s17_35, m17_36, s17_37, s17_38, s17_39, s17_40, s17_43, Int.toNat_natCast, Int.toNat_natCast, Nat.reduceAdd, Nat.reduceMul, Int.reduceToNat, Int.reduceAdd, Int.reduceLT, Int.reduceLE, Int.reduceEq, Int.reduceNeg, Int.reduceMul, Int.reduceSub, Nat.reduceSub, reduceIte, ite_true, ite_false, and_true, true_and, and_self, v0, hn, hlt, v2 i hi6, hb]
    split <;> rename_i hc
    · rw [if_pos hc] at this; exact this
    · rw [if_neg hc] at this; exact this
theorem sp17 {d N L n s : Nat} {B : q_Bv} {G H : q_Gi} (hd : 1 ≤ d) (hv : hv1 G H) (ho : Hok H) (hn : H 0 0 = (n : Int)) (hs : s < 2147483648) : Sp d 17 [.ref 1, vI s] (hp N L B G) (some (vI ((apS (H 2) s n).natAbs : Int))) (hp N L B G) := by
  refine e17 (by omega) ?_
  simp only [s17_0, s17_1, s17_2, s17_3, Int.toNat_natCast, Int.toNat_natCast, Nat.reduceAdd, Nat.reduceMul, Int.reduceToNat, Int.reduceAdd, Int.reduceLT, Int.reduceLE, Int.reduceEq, Int.reduceNeg, Int.reduceMul, Int.reduceSub, Nat.reduceSub, reduceIte, ite_true, ite_false, and_true, true_and, and_self]
  exact lp17 hv ho hn hs n 0 (by omega)
