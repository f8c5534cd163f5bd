/-! the class's Hill, at the cell 1 (now) or 8 (trial): what one bell's numbers give -/
def hungerS (k v r : Int) : Int := if k = 1 then 2 * (2 + v / 3) else if k = 2 then 1 else if k = 3 then 2 + v / 3 - 1 else if k = 4 then 2 * (2 + v / 3) else if k = 5 then 0 else if k = 6 then 2 + v / 3 - 1 + r else 2 + v / 3
def noteS (k v : Int) : Int := if k = 1 then 60 + v else if k = 2 then 80 else if k = 3 then 30 else if k = 4 then 40 + v else if k = 5 then 80 - v else if k = 6 then 30 + v else 50
def offS (k v f : Int) : Int := ((f - noteS k v).natAbs : Int)
theorem noteS_r {k v : Int} (hv : 0 ≤ v ∧ v ≤ 9) : 0 ≤ noteS k v ∧ noteS k v ≤ 100 := by unfold noteS; (repeat' split) <;> omega
def isTest (t : Int) : Prop := 0 ≤ t ∧ t < 6000
/-- tokens that go from n bits on the stack to one -/
def okS : List Int → Nat → Prop
  | [], n => n = 1
  | t :: r, n => (t = -3 ∧ 1 ≤ n ∧ okS r n) ∨ ((t = -1 ∨ t = -2) ∧ 2 ≤ n ∧ okS r (n - 1)) ∨ (isTest t ∧ n ≤ 20 ∧ okS r (n + 1))
/-- an upland object u: what it holds -/
def Seg (f : Nat → Value) : Nat → List Int → Prop
  | _, [] => True
  | p, x :: l => f p = vI x ∧ Seg f (p + 1) l
def Cls (B : q_Bv) (u : Nat) : Nat → Nat → List (Int × List Int) → Prop
  | _, _, [] => True
  | i, p, (a, l) :: r => B (u + 1) i = vI a ∧ B (u + 2) i = vI ((p + l.length : Nat) : Int) ∧ Seg (B (u + 3)) p l ∧ Cls B u (i + 1) (p + l.length) r
def toks : List (Int × List Int) → Nat
  | [] => 0
  | (_, l) :: r => l.length + toks r
def upl (B : q_Bv) (N u : Nat) (t g : Int) (cl : List (Int × List Int)) : Prop := mem [78, 129, 133, 137, 141, 145, 149] u = true ∧ u + 3 < N + 129 ∧ B u 0 = vI t ∧ B u 1 = vI g ∧ B u 2 = vI (cl.length : Int) ∧ B u 3 = .ref (u + 1) ∧ B u 4 = .ref (u + 2) ∧ B u 6 = .ref (u + 3) ∧ Cls B u 0 0 cl ∧ (0 ≤ t ∧ t ≤ 99) ∧ (0 ≤ g ∧ g ≤ 99) ∧ cl.length ≤ 10 ∧ toks cl ≤ 100 ∧ (∀ c, c ∈ cl → (-99 ≤ c.1 ∧ c.1 ≤ 99) ∧ okS c.2 0)
def tunedS (t k v f : Int) : Bool := decide (offS k v f ≤ t)
/-- kinds, v, rows, day of the hill 1 are as they are told -/
def hok1 (G : q_Gi) : Prop := (∀ b, b < 6 → 0 ≤ G 2 b ∧ G 2 b ≤ 6) ∧ (∀ b, b < 6 → 0 ≤ G 3 b ∧ G 3 b ≤ 9) ∧ (∀ b, b < 24 → 0 ≤ G 5 b ∧ G 5 b ≤ 9) ∧ (0 ≤ G 1 6 ∧ G 1 6 ≤ 20000)
theorem hok1_c {G G' : q_Gi} (e0 : G' 1 6 = G 1 6) (e1 : G' 2 = G 2) (e2 : G' 3 = G 3) (e4 : G' 5 = G 5) (h : hok1 G) : hok1 G' := by unfold hok1; rw [e0, e1, e2, e4]; exact h
/-- kinds, v, rows, day of the hill 8 are as they are told -/
def hok8 (G : q_Gi) : Prop := (∀ b, b < 6 → 0 ≤ G 9 b ∧ G 9 b ≤ 6) ∧ (∀ b, b < 6 → 0 ≤ G 10 b ∧ G 10 b ≤ 9) ∧ (∀ b, b < 24 → 0 ≤ G 12 b ∧ G 12 b ≤ 9) ∧ (0 ≤ G 8 6 ∧ G 8 6 ≤ 20000)
theorem hok8_c {G G' : q_Gi} (e0 : G' 8 6 = G 8 6) (e1 : G' 9 = G 9) (e2 : G' 10 = G 10) (e4 : G' 12 = G 12) (h : hok8 G) : hok8 G' := by unfold hok8; rw [e0, e1, e2, e4]; exact h
theorem sp6_1 {d b N L : Nat} {B : q_Bv} {G : q_Gi} (hd : 1 ≤ d) (ho : hok1 G) (hb : b < 6) : Sp d 6 [.ref 1, vI b] (hp N L B G) (some (vI (hungerS (G 2 b) (G 3 b) (G 5 (b * 4 + (G 1 6).toNat % 4))))) (hp N L B G) := by
  refine e6 hd ?_
  obtain ⟨h1, h2, h4, h6⟩ := ho
  have k1 := h1 b hb
  have k2 := h2 b hb
  have e1 : ((b : Int) * 4 + G 1 6 % 4).toNat = b * 4 + (G 1 6).toNat % 4 := by omega
  simp (disch := omega) only [s6_0, s6_1, m6_2_1, m6_2_8, s6_5, m6_6_10, m6_6_3, s6_7, s6_8, s6_9, s6_10, s6_11, m6_12_1, m6_12_8, s6_15, m6_16_2, m6_16_9, s6_17, s6_56, s6_57, s6_58, s6_59, s6_60, s6_61, s6_62, s6_63, s6_64, s6_65, s6_66, s6_67, s6_68, s6_69, s6_70, s6_71, m6_72_1, m6_72_8, s6_75, s6_76, s6_77, s6_78, m6_79_1, m6_79_8, s6_82, s6_83, s6_84, m6_85_12, m6_85_5, s6_86, s6_87, s6_88, s6_89, Int.toNat_natCast, Int.toNat_natCast, Nat.reduceAdd, Nat.reduceMul, Int.reduceToNat, Int.reduceAdd, Int.reduceLT, Int.reduceLE, Int.reduceEq, Int.reduceNeg, Int.reduceMul, Int.reduceSub, Nat.reduceSub, reduceIte, ite_true, ite_false, and_true, true_and, and_self, e1]
  repeat' split
  all_goals simp only [hungerS, *, Int.toNat_natCast, Int.toNat_natCast, Nat.reduceAdd, Nat.reduceMul, Int.reduceToNat, Int.reduceAdd, Int.reduceLT, Int.reduceLE, Int.reduceEq, Int.reduceNeg, Int.reduceMul, Int.reduceSub, Nat.reduceSub, reduceIte, ite_true, ite_false, and_true, true_and, and_self]
theorem sp7_1 {d b N L : Nat} {B : q_Bv} {G : q_Gi} (hd : 1 ≤ d) (ho : hok1 G) (hb : b < 6) : Sp d 7 [.ref 1, vI b] (hp N L B G) (some (vI (noteS (G 2 b) (G 3 b)))) (hp N L B G) := by
  refine e7 hd ?_
  obtain ⟨h1, h2, h4, h6⟩ := ho
  have k1 := h1 b hb
  have k2 := h2 b hb
  simp (disch := omega) only [s7_0, m7_1_1, m7_1_8, s7_4, m7_5_10, m7_5_3, s7_6, s7_7, m7_8_1, m7_8_8, s7_11, m7_12_2, m7_12_9, s7_13, s7_52, s7_54, s7_55, s7_56, s7_57, s7_59, s7_60, s7_62, s7_63, s7_65, s7_66, s7_67, s7_68, s7_70, s7_71, s7_72, s7_73, s7_75, s7_76, s7_77, s7_78, s7_80, Int.toNat_natCast, Int.toNat_natCast, Nat.reduceAdd, Nat.reduceMul, Int.reduceToNat, Int.reduceAdd, Int.reduceLT, Int.reduceLE, Int.reduceEq, Int.reduceNeg, Int.reduceMul, Int.reduceSub, Nat.reduceSub, reduceIte, ite_true, ite_false, and_true, true_and, and_self]
  repeat' split
  all_goals simp only [noteS, *, Int.toNat_natCast, Int.toNat_natCast, Nat.reduceAdd, Nat.reduceMul, Int.reduceToNat, Int.reduceAdd, Int.reduceLT, Int.reduceLE, Int.reduceEq, Int.reduceNeg, Int.reduceMul, Int.reduceSub, Nat.reduceSub, reduceIte, ite_true, ite_false, and_true, true_and, and_self]
theorem sp8_1 {d b N L : Nat} {f : Int} {B : q_Bv} {G : q_Gi} (hd : 2 ≤ d) (ho : hok1 G) (hb : b < 6) (hf : 0 ≤ f ∧ f ≤ 1000) : Sp d 8 [.ref 1, vI b, vI f] (hp N L B G) (some (vI (offS (G 2 b) (G 3 b) f))) (hp N L B G) := by
  refine e8 (by omega) ?_
  have k3 := @noteS_r (G 2 b) (G 3 b) (ho.2.1 b hb)
  simp (disch := omega) only [s8_0, s8_1, s8_2, s8_6, s8_7, s8_10, Int.toNat_natCast, Int.toNat_natCast, Nat.reduceAdd, Nat.reduceMul, Int.reduceToNat, Int.reduceAdd, Int.reduceLT, Int.reduceLE, Int.reduceEq, Int.reduceNeg, Int.reduceMul, Int.reduceSub, Nat.reduceSub, reduceIte, ite_true, ite_false, and_true, true_and, and_self, m8_3_1 (sp7_1 (d := d - 1) (by omega) ho hb), offS]
theorem sp9_1 {d b u N L : Nat} {t g f : Int} {cl : List (Int × List Int)} {B : q_Bv} {G : q_Gi} (hd : 3 ≤ d) (ho : hok1 G) (hu : G 1 8 = (u : Int)) (hU : upl B N u t g cl) (hb : b < 6) (hf : 0 ≤ f ∧ f ≤ 1000) : Sp d 9 [.ref 1, vI b, vI f] (hp N L B G) (some (vI (bI (tunedS t (G 2 b) (G 3 b) f = true)))) (hp N L B G) := by
  refine e9 (by omega) ?_
  obtain ⟨u1, u2, u3, u4, u5, u6, u7, u8, u9, u10, u11, u12, u13, u14⟩ := hU
  have k3 := @noteS_r (G 2 b) (G 3 b) (ho.2.1 b hb)
  have k4 : 0 ≤ offS (G 2 b) (G 3 b) f ∧ offS (G 2 b) (G 3 b) f ≤ 2000 := by unfold offS; omega
  have k5 : u < N + 129 := by omega
  simp (disch := first | omega | assumption) only [s9_0, s9_1, s9_2, s9_6, m9_7_1, m9_7_8, m9_10, s9_13, s9_16, s9_17, s9_20, s9_21, s9_21b, Int.toNat_natCast, Int.toNat_natCast, Nat.reduceAdd, Nat.reduceMul, Int.reduceToNat, Int.reduceAdd, Int.reduceLT, Int.reduceLE, Int.reduceEq, Int.reduceNeg, Int.reduceMul, Int.reduceSub, Nat.reduceSub, reduceIte, ite_true, ite_false, and_true, true_and, and_self, m9_3_1 (sp8_1 (d := d - 1) (by omega) ho hb hf), hu, u3]
  split
  · rw [bI_f]; simp only [tunedS, decide_eq_true_eq]; omega
  · rw [bI_t]; simp only [tunedS, decide_eq_true_eq]; omega
theorem sp6_8 {d b N L : Nat} {B : q_Bv} {G : q_Gi} (hd : 1 ≤ d) (ho : hok8 G) (hb : b < 6) : Sp d 6 [.ref 8, vI b] (hp N L B G) (some (vI (hungerS (G 9 b) (G 10 b) (G 12 (b * 4 + (G 8 6).toNat % 4))))) (hp N L B G) := by
  refine e6 hd ?_
  obtain ⟨h1, h2, h4, h6⟩ := ho
  have k1 := h1 b hb
  have k2 := h2 b hb
  have e1 : ((b : Int) * 4 + G 8 6 % 4).toNat = b * 4 + (G 8 6).toNat % 4 := by omega
  simp (disch := omega) only [s6_0, s6_1, m6_2_1, m6_2_8, s6_5, m6_6_10, m6_6_3, s6_7, s6_8, s6_9, s6_10, s6_11, m6_12_1, m6_12_8, s6_15, m6_16_2, m6_16_9, s6_17, s6_56, s6_57, s6_58, s6_59, s6_60, s6_61, s6_62, s6_63, s6_64, s6_65, s6_66, s6_67, s6_68, s6_69, s6_70, s6_71, m6_72_1, m6_72_8, s6_75, s6_76, s6_77, s6_78, m6_79_1, m6_79_8, s6_82, s6_83, s6_84, m6_85_12, m6_85_5, s6_86, s6_87, s6_88, s6_89, Int.toNat_natCast, Int.toNat_natCast, Nat.reduceAdd, Nat.reduceMul, Int.reduceToNat, Int.reduceAdd, Int.reduceLT, Int.reduceLE, Int.reduceEq, Int.reduceNeg, Int.reduceMul, Int.reduceSub, Nat.reduceSub, reduceIte, ite_true, ite_false, and_true, true_and, and_self, e1]
  repeat' split
  all_goals simp only [hungerS, *, Int.toNat_natCast, Int.toNat_natCast, Nat.reduceAdd, Nat.reduceMul, Int.reduceToNat, Int.reduceAdd, Int.reduceLT, Int.reduceLE, Int.reduceEq, Int.reduceNeg, Int.reduceMul, Int.reduceSub, Nat.reduceSub, reduceIte, ite_true, ite_false, and_true, true_and, and_self]
theorem sp7_8 {d b N L : Nat} {B : q_Bv} {G : q_Gi} (hd : 1 ≤ d) (ho : hok8 G) (hb : b < 6) : Sp d 7 [.ref 8, vI b] (hp N L B G) (some (vI (noteS (G 9 b) (G 10 b)))) (hp N L B G) := by
  refine e7 hd ?_
  obtain ⟨h1, h2, h4, h6⟩ := ho
  have k1 := h1 b hb
  have k2 := h2 b hb
  simp (disch := omega) only [s7_0, m7_1_1, m7_1_8, s7_4, m7_5_10, m7_5_3, s7_6, s7_7, m7_8_1, m7_8_8, s7_11, m7_12_2, m7_12_9, s7_13, s7_52, s7_54, s7_55, s7_56, s7_57, s7_59, s7_60, s7_62, s7_63, s7_65, s7_66, s7_67, s7_68, s7_70, s7_71, s7_72, s7_73, s7_75, s7_76, s7_77, s7_78, s7_80, Int.toNat_natCast, Int.toNat_natCast, Nat.reduceAdd, Nat.reduceMul, Int.reduceToNat, Int.reduceAdd, Int.reduceLT, Int.reduceLE, Int.reduceEq, Int.reduceNeg, Int.reduceMul, Int.reduceSub, Nat.reduceSub, reduceIte, ite_true, ite_false, and_true, true_and, and_self]
  repeat' split
  all_goals simp only [noteS, *, Int.toNat_natCast, Int.toNat_natCast, Nat.reduceAdd, Nat.reduceMul, Int.reduceToNat, Int.reduceAdd, Int.reduceLT, Int.reduceLE, Int.reduceEq, Int.reduceNeg, Int.reduceMul, Int.reduceSub, Nat.reduceSub, reduceIte, ite_true, ite_false, and_true, true_and, and_self]
theorem sp8_8 {d b N L : Nat} {f : Int} {B : q_Bv} {G : q_Gi} (hd : 2 ≤ d) (ho : hok8 G) (hb : b < 6) (hf : 0 ≤ f ∧ f ≤ 1000) : Sp d 8 [.ref 8, vI b, vI f] (hp N L B G) (some (vI (offS (G 9 b) (G 10 b) f))) (hp N L B G) := by
  refine e8 (by omega) ?_
  have k3 := @noteS_r (G 9 b) (G 10 b) (ho.2.1 b hb)
  simp (disch := omega) only [s8_0, s8_1, s8_2, s8_6, s8_7, s8_10, Int.toNat_natCast, Int.toNat_natCast, Nat.reduceAdd, Nat.reduceMul, Int.reduceToNat, Int.reduceAdd, Int.reduceLT, Int.reduceLE, Int.reduceEq, Int.reduceNeg, Int.reduceMul, Int.reduceSub, Nat.reduceSub, reduceIte, ite_true, ite_false, and_true, true_and, and_self, m8_3_8 (sp7_8 (d := d - 1) (by omega) ho hb), offS]
theorem sp9_8 {d b u N L : Nat} {t g f : Int} {cl : List (Int × List Int)} {B : q_Bv} {G : q_Gi} (hd : 3 ≤ d) (ho : hok8 G) (hu : G 8 8 = (u : Int)) (hU : upl B N u t g cl) (hb : b < 6) (hf : 0 ≤ f ∧ f ≤ 1000) : Sp d 9 [.ref 8, vI b, vI f] (hp N L B G) (some (vI (bI (tunedS t (G 9 b) (G 10 b) f = true)))) (hp N L B G) := by
  refine e9 (by omega) ?_
  obtain ⟨u1, u2, u3, u4, u5, u6, u7, u8, u9, u10, u11, u12, u13, u14⟩ := hU
  have k3 := @noteS_r (G 9 b) (G 10 b) (ho.2.1 b hb)
  have k4 : 0 ≤ offS (G 9 b) (G 10 b) f ∧ offS (G 9 b) (G 10 b) f ≤ 2000 := by unfold offS; omega
  have k5 : u < N + 129 := by omega
  simp (disch := first | omega | assumption) only [s9_0, s9_1, s9_2, s9_6, m9_7_1, m9_7_8, m9_10, s9_13, s9_16, s9_17, s9_20, s9_21, s9_21b, Int.toNat_natCast, Int.toNat_natCast, Nat.reduceAdd, Nat.reduceMul, Int.reduceToNat, Int.reduceAdd, Int.reduceLT, Int.reduceLE, Int.reduceEq, Int.reduceNeg, Int.reduceMul, Int.reduceSub, Nat.reduceSub, reduceIte, ite_true, ite_false, and_true, true_and, and_self, m9_3_8 (sp8_8 (d := d - 1) (by omega) ho hb hf), hu, u3]
  split
  · rw [bI_f]; simp only [tunedS, decide_eq_true_eq]; omega
  · rw [bI_t]; simp only [tunedS, decide_eq_true_eq]; omega
