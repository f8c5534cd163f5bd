/-! the class's Hill, h = 1 (now) or 8 (trial): what one bell's numbers give -/
def hungerS (k v r : Int) : Int := if k = 1 then 2 * (2 + v / 3) else if k = 2 then 1 else if k = 3 then 2 + v / 3 - 1 else if k = 4 then 2 * (2 + v / 3) else if k = 5 then 0 else if k = 6 then 2 + v / 3 - 1 + r else 2 + v / 3
def noteS (k v : Int) : Int := if k = 1 then 60 + v else if k = 2 then 80 else if k = 3 then 30 else if k = 4 then 40 + v else if k = 5 then 80 - v else if k = 6 then 30 + v else 50
def offS (k v f : Int) : Int := ((f - noteS k v).natAbs : Int)
/-- the numbers of a hill are as they are told -/
def hok (G : q_Gi) (h : Nat) : Prop := (0 ≤ G h 0 ∧ G h 0 ≤ 6) ∧ (∀ b, b < 6 → 0 ≤ G (h + 1) b ∧ G (h + 1) b ≤ 6) ∧ (∀ b, b < 6 → 0 ≤ G (h + 2) b ∧ G (h + 2) b ≤ 9) ∧ (∀ b, b < 6 → 0 ≤ G (h + 3) b ∧ G (h + 3) b ≤ 99) ∧ (∀ b, b < 24 → 0 ≤ G (h + 4) b ∧ G (h + 4) b ≤ 9) ∧ (∀ b, b < 4 → 0 ≤ G (h + 5) b ∧ G (h + 5) b ≤ 99) ∧ (0 ≤ G h 6 ∧ G h 6 ≤ 20000) ∧ (0 ≤ G h 7 ∧ G h 7 ≤ 200000)
theorem sp6 {d h b N L : Nat} {B : q_Bv} {G : q_Gi} (hd : 1 ≤ d) (hh : h = 1 ∨ h = 8) (ho : hok G h) (hb : b < 6) : Sp d 6 [.ref h, vI b] (hp N L B G) (some (vI (hungerS (G (h + 1) b) (G (h + 2) b) (G (h + 4) (b * 4 + (G h 6).toNat % 4))))) (hp N L B G) := by
  refine e6 hd ?_
  obtain ⟨h0, h1, h2, h3, h4, h5, h6, h7⟩ := ho
  have k1 := h1 b hb
  have k2 := h2 b hb
  have e1 : ((b : Int) * 4 + G h 6 % 4).toNat = b * 4 + (G h 6).toNat % 4 := by omega
  rcases hh with rfl | rfl
  all_goals
    simp only [Nat.reduceAdd] at k1 k2
    simp (disch := omega) only [s6_0, s6_1, m6_2_1, m6_2_8, s6_5, m6_6_10, m6_6_3, s6_7, s6_8, s6_9, s6_10, s6_11, m6_12_1, m6_12_8, s6_15, m6_16_2, m6_16_9, s6_17, s6_56, s6_57, s6_58, s6_59, s6_60, s6_61, s6_62, s6_63, s6_64, s6_65, s6_66, s6_67, s6_68, s6_69, s6_70, s6_71, m6_72_1, m6_72_8, s6_75, s6_76, s6_77, s6_78, m6_79_1, m6_79_8, s6_82, s6_83, s6_84, m6_85_12, m6_85_5, s6_86, s6_87, s6_88, s6_89, Int.toNat_natCast, Nat.reduceAdd, Nat.reduceMul, Int.reduceToNat, Int.reduceAdd, Int.reduceLT, Int.reduceLE, Int.reduceEq, Int.reduceNeg, Int.reduceMul, Int.reduceSub, Nat.reduceSub, reduceIte, ite_true, ite_false, and_true, true_and, and_self, e1]
    repeat' split
    all_goals simp only [hungerS, *, Int.toNat_natCast, Nat.reduceAdd, Nat.reduceMul, Int.reduceToNat, Int.reduceAdd, Int.reduceLT, Int.reduceLE, Int.reduceEq, Int.reduceNeg, Int.reduceMul, Int.reduceSub, Nat.reduceSub, reduceIte, ite_true, ite_false, and_true, true_and, and_self]
