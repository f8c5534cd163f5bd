/-! an upland's clauses: what a test, an E, all clauses give -/
def testS (E : Nat → Int) (t : Int) : Bool := if t / 100 % 10 = 0 then decide (E (t / 1000).toNat < t % 100) else if t / 100 % 10 = 1 then decide (E (t / 1000).toNat = t % 100) else decide (t % 100 < E (t / 1000).toNat)
def stepS (E : Nat → Int) (t : Int) (bs : List Bool) : List Bool := if t = -3 then (match bs with
    | b :: r => (!b) :: r
    | [] => []) else if t = -1 then (match bs with
    | b :: a :: r => (a && b) :: r
    | r => r) else if t = -2 then (match bs with
    | b :: a :: r => (a || b) :: r
    | r => r) else testS E t :: bs
def evalS (E : Nat → Int) : List Int → List Bool → List Bool
  | [], bs => bs
  | t :: r, bs => evalS E r (stepS E t bs)
def holdsS (E : Nat → Int) (l : List Int) : Bool := match evalS E l [] with
  | b :: _ => b
  | [] => false
def b2n (b : Bool) : Nat := if b = true then 1 else 0
def bn : List Bool → Nat
  | [] => 0
  | b :: r => b2n b + 2 * bn r
theorem b2n_lt (b : Bool) : b2n b < 2 := by cases b <;> decide
theorem bn_lt : ∀ bs : List Bool, bn bs < 2 ^ bs.length := by
  intro bs
  induction bs with
  | nil => decide
  | cons b r ih =>
    have := b2n_lt b
    rw [List.length_cons, Nat.pow_succ]
    unfold bn
    omega
theorem bn_s {bs : List Bool} (h : bs.length ≤ 21) : bn bs < 2097152 := Nat.lt_of_lt_of_le (bn_lt bs) (Nat.pow_le_pow_right (by decide) h)
def lset (G : q_Gi) (c : Nat) : Prop := ∀ k, k < 6 → 0 ≤ G c k ∧ G c k ≤ 1000
theorem sp52_7 {d N L : Nat} {t : Int} {B : q_Bv} {G : q_Gi} (hd : 1 ≤ d) (ht : isTest t) (hE : lset G 7) : Sp d 52 [vI t, .ref 7] (hp N L B G) (some (vI (bI (testS (G 7) t = true)))) (hp N L B G) := by
  refine e52 hd ?_
  obtain ⟨t1, t2⟩ := ht
  have k1 := hE (t / 1000).toNat (by omega)
  simp (disch := omega) only [s52_0, s52_1, s52_4, s52_5, s52_6, s52_7, s52_10, s52_11, m52_12_14, m52_12_7, s52_13, s52_16, s52_17, s52_17b, s52_18, s52_19, m52_20_14, m52_20_7, s52_21, s52_22, s52_23, s52_25, s52_26, s52_28, s52_29, s52_31, s52_32, s52_34, s52_35, s52_60, s52_61, s52_63, s52_66, s52_67, s52_70, s52_71, s52_71b, s52_72, s52_73, s52_75, s52_75b, s52_78, s52_79, s52_82, s52_83, s52_83b, s52_84, s52_85, s52_87, s52_90, s52_91, s52_94, s52_95, s52_95b, Int.toNat_natCast, Int.toNat_natCast, Nat.reduceAdd, Nat.reduceMul, Int.reduceToNat, Int.reduceAdd, Int.reduceLT, Int.reduceLE, Int.reduceEq, Int.reduceNeg, Int.reduceMul, Int.reduceSub, Nat.reduceSub, reduceIte, ite_true, ite_false, and_true, true_and, and_self]
  repeat' split
  all_goals first | omega | skip
  all_goals simp only [testS, *, Int.toNat_natCast, Int.toNat_natCast, Nat.reduceAdd, Nat.reduceMul, Int.reduceToNat, Int.reduceAdd, Int.reduceLT, Int.reduceLE, Int.reduceEq, Int.reduceNeg, Int.reduceMul, Int.reduceSub, Nat.reduceSub, reduceIte, ite_true, ite_false, and_true, true_and, and_self, bI, decide_eq_true_eq]
  all_goals first | rfl | omega | skip
theorem sp52_14 {d N L : Nat} {t : Int} {B : q_Bv} {G : q_Gi} (hd : 1 ≤ d) (ht : isTest t) (hE : lset G 14) : Sp d 52 [vI t, .ref 14] (hp N L B G) (some (vI (bI (testS (G 14) t = true)))) (hp N L B G) := by
  refine e52 hd ?_
  obtain ⟨t1, t2⟩ := ht
  have k1 := hE (t / 1000).toNat (by omega)
  simp (disch := omega) only [s52_0, s52_1, s52_4, s52_5, s52_6, s52_7, s52_10, s52_11, m52_12_14, m52_12_7, s52_13, s52_16, s52_17, s52_17b, s52_18, s52_19, m52_20_14, m52_20_7, s52_21, s52_22, s52_23, s52_25, s52_26, s52_28, s52_29, s52_31, s52_32, s52_34, s52_35, s52_60, s52_61, s52_63, s52_66, s52_67, s52_70, s52_71, s52_71b, s52_72, s52_73, s52_75, s52_75b, s52_78, s52_79, s52_82, s52_83, s52_83b, s52_84, s52_85, s52_87, s52_90, s52_91, s52_94, s52_95, s52_95b, Int.toNat_natCast, Int.toNat_natCast, Nat.reduceAdd, Nat.reduceMul, Int.reduceToNat, Int.reduceAdd, Int.reduceLT, Int.reduceLE, Int.reduceEq, Int.reduceNeg, Int.reduceMul, Int.reduceSub, Nat.reduceSub, reduceIte, ite_true, ite_false, and_true, true_and, and_self]
  repeat' split
  all_goals first | omega | skip
  all_goals simp only [testS, *, Int.toNat_natCast, Int.toNat_natCast, Nat.reduceAdd, Nat.reduceMul, Int.reduceToNat, Int.reduceAdd, Int.reduceLT, Int.reduceLE, Int.reduceEq, Int.reduceNeg, Int.reduceMul, Int.reduceSub, Nat.reduceSub, reduceIte, ite_true, ite_false, and_true, true_and, and_self, bI, decide_eq_true_eq]
  all_goals first | rfl | omega | skip
theorem tb0 (b : Bool) (r : Nat) : (b2n b + 2 * r).testBit 0 = b := by
  rw [Nat.testBit_zero]
  cases b <;> simp only [b2n] <;> simp <;> omega
theorem tbs (b : Bool) (r i : Nat) : (b2n b + 2 * r).testBit (i + 1) = r.testBit i := by
  rw [Nat.testBit_succ]
  congr 1
  have := b2n_lt b
  omega
theorem bn_land (b c : Bool) (r s : Nat) : (b2n b + 2 * r) &&& (b2n c + 2 * s) = b2n (b && c) + 2 * (r &&& s) := by
  apply Nat.eq_of_testBit_eq
  intro i
  cases i with
  | zero => rw [Nat.testBit_and, tb0, tb0, tb0]
  | succ i => rw [Nat.testBit_and, tbs, tbs, tbs, Nat.testBit_and]
theorem bn_lor (b c : Bool) (r s : Nat) : (b2n b + 2 * r) ||| (b2n c + 2 * s) = b2n (b || c) + 2 * (r ||| s) := by
  apply Nat.eq_of_testBit_eq
  intro i
  cases i with
  | zero => rw [Nat.testBit_or, tb0, tb0, tb0]
  | succ i => rw [Nat.testBit_or, tbs, tbs, tbs, Nat.testBit_or]
theorem bn_lxor (b c : Bool) (r s : Nat) : (b2n b + 2 * r) ^^^ (b2n c + 2 * s) = b2n (b ^^ c) + 2 * (r ^^^ s) := by
  apply Nat.eq_of_testBit_eq
  intro i
  cases i with
  | zero => rw [Nat.testBit_xor, tb0, tb0, tb0]
  | succ i => rw [Nat.testBit_xor, tbs, tbs, tbs, Nat.testBit_xor]
theorem bn_not {b : Bool} {r : List Bool} (h : (b :: r).length ≤ 21) : ixor (bn (b :: r) : Int) 1 = (bn ((!b) :: r) : Int) := by
  have h1 := bn_s h
  have e := @ixor_n (bn (b :: r)) 1 (by omega) (by decide)
  have e2 := bn_lxor b true (bn r) 0
  rw [show b2n true + 2 * 0 = 1 from rfl, Nat.xor_zero] at e2
  rw [show ((1 : Nat) : Int) = 1 from rfl] at e
  rw [e]
  unfold bn
  rw [e2]
  cases b <;> rfl
theorem bn_half {b : Bool} {r : List Bool} (h : (b :: r).length ≤ 21) : ishr (bn (b :: r) : Int) 1 = (bn r : Int) := by
  have h1 := bn_s h
  have e := @ishr_n (bn (b :: r)) 1 (by decide) (by omega)
  rw [show ((1 : Nat) : Int) = 1 from rfl] at e
  rw [e]
  have := b2n_lt b
  show ((((b2n b + 2 * bn r) / 2 ^ 1 : Nat)) : Int) = _
  congr 1
  omega
theorem bn_top {b : Bool} {r : List Bool} (h : (b :: r).length ≤ 21) : iand (bn (b :: r) : Int) 1 = (b2n b : Int) := by
  have h1 := bn_s h
  have e := @iand_n (bn (b :: r)) 1 (by omega) (by decide)
  have e2 := bn_land b true (bn r) 0
  rw [show b2n true + 2 * 0 = 1 from rfl, Nat.and_zero, Bool.and_true] at e2
  rw [show ((1 : Nat) : Int) = 1 from rfl] at e
  rw [e]
  unfold bn
  rw [e2]
  rfl
theorem bn_and {b a : Bool} {r : List Bool} (h : (b :: a :: r).length ≤ 21) : iand (ishr (bn (b :: a :: r) : Int) 1) (ior (bn (b :: a :: r) : Int) (-2)) = (bn ((a && b) :: r) : Int) := by
  have h1 := bn_s h
  have h3 : (a :: r).length ≤ 21 := by simp at h ⊢; omega
  have h2 := bn_s h3
  rw [bn_half h, ior_m2 (by omega)]
  have e : bn (b :: a :: r) % 2 = b2n b := by
    have := b2n_lt b
    show (b2n b + 2 * bn (a :: r)) % 2 = _
    omega
  rw [e]
  cases b with
  | true =>
    rw [if_pos (show b2n true = 1 from rfl), iand_m1 (by omega), Bool.and_true]
  | false =>
    rw [if_neg (by decide), iand_m2 (by omega), Bool.and_false]
    have := b2n_lt a
    show (((2 * ((b2n a + 2 * bn r) / 2) : Nat)) : Int) = ((b2n false + 2 * bn r : Nat) : Int)
    rw [show b2n false = 0 from rfl]
    congr 1
    omega
theorem bn_or {b a : Bool} {r : List Bool} (h : (b :: a :: r).length ≤ 21) : ior (ishr (bn (b :: a :: r) : Int) 1) (iand (bn (b :: a :: r) : Int) 1) = (bn ((a || b) :: r) : Int) := by
  have h3 : (a :: r).length ≤ 21 := by simp at h ⊢; omega
  have h2 := bn_s h3
  rw [bn_half h, bn_top h, ior_n (by omega) (by have := b2n_lt b; omega)]
  congr 1
  have e := bn_lor a b (bn r) 0
  rw [Nat.mul_zero, Nat.add_zero, Nat.or_zero] at e
  exact e
theorem bn_push {b : Bool} {r : List Bool} (h : r.length ≤ 20) : ior (ishl (bn r : Int) 1) (b2n b : Int) = (bn (b :: r) : Int) := by
  have h2 := @bn_s r (by omega)
  have e1 := @ishl_n (bn r) 1 (by decide) (by omega)
  rw [show ((1 : Nat) : Int) = 1 from rfl] at e1
  rw [e1, ior_n (by omega) (by have := b2n_lt b; omega)]
  congr 1
  have e := bn_lor false b (bn r) 0
  rw [show b2n false = 0 from rfl, Nat.zero_add, Nat.mul_zero, Nat.add_zero, Nat.or_zero, Bool.false_or] at e
  rw [Nat.mul_comm, Nat.pow_one, e]
  rfl
/-- what method 51's loop needs of the object u -/
def uarr (u N : Nat) : Prop := mem [78, 129, 133, 137, 141, 145, 149] u = true ∧ mem [81, 132, 136, 140, 144, 148, 152] (u + 3) = true ∧ mem [80, 131, 135, 139, 143, 147, 151] (u + 2) = true ∧ mem [79, 130, 134, 138, 142, 146, 150] (u + 1) = true ∧ u + 3 < N + 129 ∧ u ≤ 149
theorem uarr_of {u N : Nat} (h : mem [78, 129, 133, 137, 141, 145, 149] u = true) (hN : u + 3 < N + 129) : uarr u N := by
  have h2 : ∀ b, b ∈ [78, 129, 133, 137, 141, 145, 149] → mem [81, 132, 136, 140, 144, 148, 152] (b + 3) = true ∧ mem [80, 131, 135, 139, 143, 147, 151] (b + 2) = true ∧ mem [79, 130, 134, 138, 142, 146, 150] (b + 1) = true ∧ b ≤ 149 := by decide
  have h3 := h2 u (mem_of h)
  exact ⟨h, h3.1, h3.2.1, h3.2.2.1, hN, h3.2.2.2⟩
theorem lp51_7 {d u N L : Nat} {B : q_Bv} {G : q_Gi} {f : Int} {to : Nat} (hd : 1 ≤ d) (hu : uarr u N) (hs : B u 6 = .ref (u + 3)) (hE : lset G 7) (hto : to ≤ 100) : ∀ (l : List Int) (p : Nat) (bs : List Bool) (x : Value), p + l.length = to → okS l bs.length → Seg (B (u + 3)) p l → bs.length ≤ 21 → WP d 51 6 [.ref u, vI f, vI to, .ref 7, vI (bn bs), vI p, x] [] (hp N L B G) (fun r1 X1 => r1 = some (vI (bI ((match evalS (G 7) l bs with | b :: _ => b | [] => false) = true))) ∧ X1 = hp N L B G) := by
  obtain ⟨hu1, hu2, hu3, hu4, hu5, hu7⟩ := hu
  have hu6 : u < N + 129 := by omega
  intro l
  induction l with
  | nil =>
    intro p bs x hp' hk hg hl
    have hi : ¬ ((p : Int) < (to : Int)) := by simp at hp'; omega
    obtain ⟨b, rfl⟩ : ∃ b, bs = [b] := by
      match bs, hk with
      | [b], _ => exact ⟨b, rfl⟩
    cases b
    · have e : iand (bn [false] : Int) 1 = 0 := bn_top hl
      simp (disch := omega) only [s51_6, s51_8, s51_9, s51_12, m51_13, s51_16, m51_18, s51_19, s51_106, s51_108, s51_109, s51_110, s51_111, s51_111b, s51_114, s51_115, s51_118, s51_119, s51_119b, Int.toNat_natCast, Int.toNat_natCast, Nat.reduceAdd, Nat.reduceMul, Int.reduceToNat, Int.reduceAdd, Int.reduceLT, Int.reduceLE, Int.reduceEq, Int.reduceNeg, Int.reduceMul, Int.reduceSub, Nat.reduceSub, reduceIte, ite_true, ite_false, and_true, true_and, and_self, hi, e, evalS]
      rfl
    · have e : iand (bn [true] : Int) 1 = 1 := bn_top hl
      simp (disch := omega) only [s51_6, s51_8, s51_9, s51_12, m51_13, s51_16, m51_18, s51_19, s51_106, s51_108, s51_109, s51_110, s51_111, s51_111b, s51_114, s51_115, s51_118, s51_119, s51_119b, Int.toNat_natCast, Int.toNat_natCast, Nat.reduceAdd, Nat.reduceMul, Int.reduceToNat, Int.reduceAdd, Int.reduceLT, Int.reduceLE, Int.reduceEq, Int.reduceNeg, Int.reduceMul, Int.reduceSub, Nat.reduceSub, reduceIte, ite_true, ite_false, and_true, true_and, and_self, hi, e, evalS]
      rfl
  | cons t l ih =>
    intro p bs x hp' hk hg hl
    rw [List.length_cons] at hp'
    have hi : (p : Int) < (to : Int) := by omega
    have hr : B (u + 3) p = vI t := hg.1
    have e1 : ((p + 1 : Nat) : Int) = (p : Int) + 1 := by omega
    rcases hk with ⟨rfl, h1, h2⟩ | ⟨h0, h1, h2⟩ | ⟨h0, h1, h2⟩
    · match bs, h1, h2, hl with
      | b :: r, h1, h2, hl =>
        have := ih (p + 1) ((!b) :: r) (vI (-3)) (by omega) h2 hg.2 hl
        rw [e1] at this
        rw [s51_6]
        simp (disch := first | omega | assumption) only [s51_8, s51_9, s51_12, m51_13, s51_16, m51_18, s51_19, s51_21, s51_23, s51_25, s51_25b, s51_28, s51_30, s51_31, s51_32, s51_34, s51_37, s51_39, s51_40, s51_40b, s51_43, s51_45, s51_46, s51_47, s51_49, s51_51, s51_52, s51_53, s51_55, s51_58, s51_60, s51_62, s51_62b, s51_65, s51_67, s51_68, s51_69, s51_71, s51_72, s51_73, s51_74, s51_76, s51_79, s51_81, s51_82, s51_83, s51_85, s51_89, s51_89b, s51_92, s51_93, s51_96, s51_97, s51_98, s51_100, s51_103, Int.toNat_natCast, Int.toNat_natCast, Nat.reduceAdd, Nat.reduceMul, Int.reduceToNat, Int.reduceAdd, Int.reduceLT, Int.reduceLE, Int.reduceEq, Int.reduceNeg, Int.reduceMul, Int.reduceSub, Nat.reduceSub, reduceIte, ite_true, ite_false, and_true, true_and, and_self, hi, hs, hr, bn_not hl]
        exact this
    · have hl1 : 2 ≤ bs.length := h1
      match bs, hl1, h2, hl with
      | b :: a :: r, h1, h2, hl =>
        rcases h0 with rfl | rfl
        · have := ih (p + 1) ((a && b) :: r) (vI (-1)) (by omega) h2 hg.2 (by simp at hl ⊢; omega)
          rw [e1] at this
          rw [s51_6]
          simp (disch := first | omega | assumption) only [s51_8, s51_9, s51_12, m51_13, s51_16, m51_18, s51_19, s51_21, s51_23, s51_25, s51_25b, s51_28, s51_30, s51_31, s51_32, s51_34, s51_37, s51_39, s51_40, s51_40b, s51_43, s51_45, s51_46, s51_47, s51_49, s51_51, s51_52, s51_53, s51_55, s51_58, s51_60, s51_62, s51_62b, s51_65, s51_67, s51_68, s51_69, s51_71, s51_72, s51_73, s51_74, s51_76, s51_79, s51_81, s51_82, s51_83, s51_85, s51_89, s51_89b, s51_92, s51_93, s51_96, s51_97, s51_98, s51_100, s51_103, Int.toNat_natCast, Int.toNat_natCast, Nat.reduceAdd, Nat.reduceMul, Int.reduceToNat, Int.reduceAdd, Int.reduceLT, Int.reduceLE, Int.reduceEq, Int.reduceNeg, Int.reduceMul, Int.reduceSub, Nat.reduceSub, reduceIte, ite_true, ite_false, and_true, true_and, and_self, hi, hs, hr, bn_and hl]
          exact this
        · have := ih (p + 1) ((a || b) :: r) (vI (-2)) (by omega) h2 hg.2 (by simp at hl ⊢; omega)
          rw [e1] at this
          rw [s51_6]
          simp (disch := first | omega | assumption) only [s51_8, s51_9, s51_12, m51_13, s51_16, m51_18, s51_19, s51_21, s51_23, s51_25, s51_25b, s51_28, s51_30, s51_31, s51_32, s51_34, s51_37, s51_39, s51_40, s51_40b, s51_43, s51_45, s51_46, s51_47, s51_49, s51_51, s51_52, s51_53, s51_55, s51_58, s51_60, s51_62, s51_62b, s51_65, s51_67, s51_68, s51_69, s51_71, s51_72, s51_73, s51_74, s51_76, s51_79, s51_81, s51_82, s51_83, s51_85, s51_89, s51_89b, s51_92, s51_93, s51_96, s51_97, s51_98, s51_100, s51_103, Int.toNat_natCast, Int.toNat_natCast, Nat.reduceAdd, Nat.reduceMul, Int.reduceToNat, Int.reduceAdd, Int.reduceLT, Int.reduceLE, Int.reduceEq, Int.reduceNeg, Int.reduceMul, Int.reduceSub, Nat.reduceSub, reduceIte, ite_true, ite_false, and_true, true_and, and_self, hi, hs, hr, bn_or hl]
          exact this
    · have := ih (p + 1) (testS (G 7) t :: bs) (vI t) (by omega) h2 hg.2 (by simp; omega)
      rw [e1] at this
      have n1 : ¬ t = -3 := by unfold isTest at h0; omega
      have n2 : ¬ t = -1 := by unfold isTest at h0; omega
      have n3 : ¬ t = -2 := by unfold isTest at h0; omega
      have n4 : -2147483648 ≤ t ∧ t ≤ 2147483647 := by unfold isTest at h0; omega
      rw [s51_6]
      simp (disch := first | omega | assumption) only [s51_8, s51_9, s51_12, m51_13, s51_16, m51_18, s51_19, s51_21, s51_23, s51_25, s51_25b, s51_28, s51_30, s51_31, s51_32, s51_34, s51_37, s51_39, s51_40, s51_40b, s51_43, s51_45, s51_46, s51_47, s51_49, s51_51, s51_52, s51_53, s51_55, s51_58, s51_60, s51_62, s51_62b, s51_65, s51_67, s51_68, s51_69, s51_71, s51_72, s51_73, s51_74, s51_76, s51_79, s51_81, s51_82, s51_83, s51_85, s51_89, s51_89b, s51_92, s51_93, s51_96, s51_97, s51_98, s51_100, s51_103, Int.toNat_natCast, Int.toNat_natCast, Nat.reduceAdd, Nat.reduceMul, Int.reduceToNat, Int.reduceAdd, Int.reduceLT, Int.reduceLE, Int.reduceEq, Int.reduceNeg, Int.reduceMul, Int.reduceSub, Nat.reduceSub, reduceIte, ite_true, ite_false, and_true, true_and, and_self, hi, hs, hr, n1, n2, n3, c51_86 (sp52_7 (N := N) (L := L) (B := B) hd h0 hE)]
      have e3 : evalS (G 7) (t :: l) bs = evalS (G 7) l (testS (G 7) t :: bs) := by simp only [evalS, stepS, n1, n2, n3, if_false]
      rw [e3]
      cases hb : testS (G 7) t
      · have e2 := @bn_push false bs h1
        rw [hb] at this
        simp only [Bool.false_eq_true, if_false]
        rw [show ior (ishl (bn bs : Int) 1) 0 = (bn (false :: bs) : Int) from e2]
        exact this
      · have e2 := @bn_push true bs h1
        rw [hb] at this
        simp only [if_true]
        rw [show ior (ishl (bn bs : Int) 1) 1 = (bn (true :: bs) : Int) from e2]
        exact this
theorem sp51_7 {d u N L : Nat} {B : q_Bv} {G : q_Gi} {l : List Int} {p : Nat} (hd : 2 ≤ d) (hu : uarr u N) (hs : B u 6 = .ref (u + 3)) (hE : lset G 7) (hto : p + l.length ≤ 100) (hk : okS l 0) (hg : Seg (B (u + 3)) p l) : Sp d 51 [.ref u, vI p, vI ((p + l.length : Nat) : Int), .ref 7] (hp N L B G) (some (vI (bI (holdsS (G 7) l = true)))) (hp N L B G) := by
  refine e51 (by omega) ?_
  have := lp51_7 (d := d - 1) (f := (p : Int)) (L := L) (by omega) hu hs hE hto l p [] .null rfl hk hg (by decide)
  simp only [s51_0, s51_1, s51_3, s51_4, Int.toNat_natCast, Int.toNat_natCast, Nat.reduceAdd, Nat.reduceMul, Int.reduceToNat, Int.reduceAdd, Int.reduceLT, Int.reduceLE, Int.reduceEq, Int.reduceNeg, Int.reduceMul, Int.reduceSub, Nat.reduceSub, reduceIte, ite_true, ite_false, and_true, true_and, and_self]
  exact this
theorem lp51_14 {d u N L : Nat} {B : q_Bv} {G : q_Gi} {f : Int} {to : Nat} (hd : 1 ≤ d) (hu : uarr u N) (hs : B u 6 = .ref (u + 3)) (hE : lset G 14) (hto : to ≤ 100) : ∀ (l : List Int) (p : Nat) (bs : List Bool) (x : Value), p + l.length = to → okS l bs.length → Seg (B (u + 3)) p l → bs.length ≤ 21 → WP d 51 6 [.ref u, vI f, vI to, .ref 14, vI (bn bs), vI p, x] [] (hp N L B G) (fun r1 X1 => r1 = some (vI (bI ((match evalS (G 14) l bs with | b :: _ => b | [] => false) = true))) ∧ X1 = hp N L B G) := by
  obtain ⟨hu1, hu2, hu3, hu4, hu5, hu7⟩ := hu
  have hu6 : u < N + 129 := by omega
  intro l
  induction l with
  | nil =>
    intro p bs x hp' hk hg hl
    have hi : ¬ ((p : Int) < (to : Int)) := by simp at hp'; omega
    obtain ⟨b, rfl⟩ : ∃ b, bs = [b] := by
      match bs, hk with
      | [b], _ => exact ⟨b, rfl⟩
    cases b
    · have e : iand (bn [false] : Int) 1 = 0 := bn_top hl
      simp (disch := omega) only [s51_6, s51_8, s51_9, s51_12, m51_13, s51_16, m51_18, s51_19, s51_106, s51_108, s51_109, s51_110, s51_111, s51_111b, s51_114, s51_115, s51_118, s51_119, s51_119b, Int.toNat_natCast, Int.toNat_natCast, Nat.reduceAdd, Nat.reduceMul, Int.reduceToNat, Int.reduceAdd, Int.reduceLT, Int.reduceLE, Int.reduceEq, Int.reduceNeg, Int.reduceMul, Int.reduceSub, Nat.reduceSub, reduceIte, ite_true, ite_false, and_true, true_and, and_self, hi, e, evalS]
      rfl
    · have e : iand (bn [true] : Int) 1 = 1 := bn_top hl
      simp (disch := omega) only [s51_6, s51_8, s51_9, s51_12, m51_13, s51_16, m51_18, s51_19, s51_106, s51_108, s51_109, s51_110, s51_111, s51_111b, s51_114, s51_115, s51_118, s51_119, s51_119b, Int.toNat_natCast, Int.toNat_natCast, Nat.reduceAdd, Nat.reduceMul, Int.reduceToNat, Int.reduceAdd, Int.reduceLT, Int.reduceLE, Int.reduceEq, Int.reduceNeg, Int.reduceMul, Int.reduceSub, Nat.reduceSub, reduceIte, ite_true, ite_false, and_true, true_and, and_self, hi, e, evalS]
      rfl
  | cons t l ih =>
    intro p bs x hp' hk hg hl
    rw [List.length_cons] at hp'
    have hi : (p : Int) < (to : Int) := by omega
    have hr : B (u + 3) p = vI t := hg.1
    have e1 : ((p + 1 : Nat) : Int) = (p : Int) + 1 := by omega
    rcases hk with ⟨rfl, h1, h2⟩ | ⟨h0, h1, h2⟩ | ⟨h0, h1, h2⟩
    · match bs, h1, h2, hl with
      | b :: r, h1, h2, hl =>
        have := ih (p + 1) ((!b) :: r) (vI (-3)) (by omega) h2 hg.2 hl
        rw [e1] at this
        rw [s51_6]
        simp (disch := first | omega | assumption) only [s51_8, s51_9, s51_12, m51_13, s51_16, m51_18, s51_19, s51_21, s51_23, s51_25, s51_25b, s51_28, s51_30, s51_31, s51_32, s51_34, s51_37, s51_39, s51_40, s51_40b, s51_43, s51_45, s51_46, s51_47, s51_49, s51_51, s51_52, s51_53, s51_55, s51_58, s51_60, s51_62, s51_62b, s51_65, s51_67, s51_68, s51_69, s51_71, s51_72, s51_73, s51_74, s51_76, s51_79, s51_81, s51_82, s51_83, s51_85, s51_89, s51_89b, s51_92, s51_93, s51_96, s51_97, s51_98, s51_100, s51_103, Int.toNat_natCast, Int.toNat_natCast, Nat.reduceAdd, Nat.reduceMul, Int.reduceToNat, Int.reduceAdd, Int.reduceLT, Int.reduceLE, Int.reduceEq, Int.reduceNeg, Int.reduceMul, Int.reduceSub, Nat.reduceSub, reduceIte, ite_true, ite_false, and_true, true_and, and_self, hi, hs, hr, bn_not hl]
        exact this
    · have hl1 : 2 ≤ bs.length := h1
      match bs, hl1, h2, hl with
      | b :: a :: r, h1, h2, hl =>
        rcases h0 with rfl | rfl
        · have := ih (p + 1) ((a && b) :: r) (vI (-1)) (by omega) h2 hg.2 (by simp at hl ⊢; omega)
          rw [e1] at this
          rw [s51_6]
          simp (disch := first | omega | assumption) only [s51_8, s51_9, s51_12, m51_13, s51_16, m51_18, s51_19, s51_21, s51_23, s51_25, s51_25b, s51_28, s51_30, s51_31, s51_32, s51_34, s51_37, s51_39, s51_40, s51_40b, s51_43, s51_45, s51_46, s51_47, s51_49, s51_51, s51_52, s51_53, s51_55, s51_58, s51_60, s51_62, s51_62b, s51_65, s51_67, s51_68, s51_69, s51_71, s51_72, s51_73, s51_74, s51_76, s51_79, s51_81, s51_82, s51_83, s51_85, s51_89, s51_89b, s51_92, s51_93, s51_96, s51_97, s51_98, s51_100, s51_103, Int.toNat_natCast, Int.toNat_natCast, Nat.reduceAdd, Nat.reduceMul, Int.reduceToNat, Int.reduceAdd, Int.reduceLT, Int.reduceLE, Int.reduceEq, Int.reduceNeg, Int.reduceMul, Int.reduceSub, Nat.reduceSub, reduceIte, ite_true, ite_false, and_true, true_and, and_self, hi, hs, hr, bn_and hl]
          exact this
        · have := ih (p + 1) ((a || b) :: r) (vI (-2)) (by omega) h2 hg.2 (by simp at hl ⊢; omega)
          rw [e1] at this
          rw [s51_6]
          simp (disch := first | omega | assumption) only [s51_8, s51_9, s51_12, m51_13, s51_16, m51_18, s51_19, s51_21, s51_23, s51_25, s51_25b, s51_28, s51_30, s51_31, s51_32, s51_34, s51_37, s51_39, s51_40, s51_40b, s51_43, s51_45, s51_46, s51_47, s51_49, s51_51, s51_52, s51_53, s51_55, s51_58, s51_60, s51_62, s51_62b, s51_65, s51_67, s51_68, s51_69, s51_71, s51_72, s51_73, s51_74, s51_76, s51_79, s51_81, s51_82, s51_83, s51_85, s51_89, s51_89b, s51_92, s51_93, s51_96, s51_97, s51_98, s51_100, s51_103, Int.toNat_natCast, Int.toNat_natCast, Nat.reduceAdd, Nat.reduceMul, Int.reduceToNat, Int.reduceAdd, Int.reduceLT, Int.reduceLE, Int.reduceEq, Int.reduceNeg, Int.reduceMul, Int.reduceSub, Nat.reduceSub, reduceIte, ite_true, ite_false, and_true, true_and, and_self, hi, hs, hr, bn_or hl]
          exact this
    · have := ih (p + 1) (testS (G 14) t :: bs) (vI t) (by omega) h2 hg.2 (by simp; omega)
      rw [e1] at this
      have n1 : ¬ t = -3 := by unfold isTest at h0; omega
      have n2 : ¬ t = -1 := by unfold isTest at h0; omega
      have n3 : ¬ t = -2 := by unfold isTest at h0; omega
      have n4 : -2147483648 ≤ t ∧ t ≤ 2147483647 := by unfold isTest at h0; omega
      rw [s51_6]
      simp (disch := first | omega | assumption) only [s51_8, s51_9, s51_12, m51_13, s51_16, m51_18, s51_19, s51_21, s51_23, s51_25, s51_25b, s51_28, s51_30, s51_31, s51_32, s51_34, s51_37, s51_39, s51_40, s51_40b, s51_43, s51_45, s51_46, s51_47, s51_49, s51_51, s51_52, s51_53, s51_55, s51_58, s51_60, s51_62, s51_62b, s51_65, s51_67, s51_68, s51_69, s51_71, s51_72, s51_73, s51_74, s51_76, s51_79, s51_81, s51_82, s51_83, s51_85, s51_89, s51_89b, s51_92, s51_93, s51_96, s51_97, s51_98, s51_100, s51_103, Int.toNat_natCast, Int.toNat_natCast, Nat.reduceAdd, Nat.reduceMul, Int.reduceToNat, Int.reduceAdd, Int.reduceLT, Int.reduceLE, Int.reduceEq, Int.reduceNeg, Int.reduceMul, Int.reduceSub, Nat.reduceSub, reduceIte, ite_true, ite_false, and_true, true_and, and_self, hi, hs, hr, n1, n2, n3, c51_86 (sp52_14 (N := N) (L := L) (B := B) hd h0 hE)]
      have e3 : evalS (G 14) (t :: l) bs = evalS (G 14) l (testS (G 14) t :: bs) := by simp only [evalS, stepS, n1, n2, n3, if_false]
      rw [e3]
      cases hb : testS (G 14) t
      · have e2 := @bn_push false bs h1
        rw [hb] at this
        simp only [Bool.false_eq_true, if_false]
        rw [show ior (ishl (bn bs : Int) 1) 0 = (bn (false :: bs) : Int) from e2]
        exact this
      · have e2 := @bn_push true bs h1
        rw [hb] at this
        simp only [if_true]
        rw [show ior (ishl (bn bs : Int) 1) 1 = (bn (true :: bs) : Int) from e2]
        exact this
theorem sp51_14 {d u N L : Nat} {B : q_Bv} {G : q_Gi} {l : List Int} {p : Nat} (hd : 2 ≤ d) (hu : uarr u N) (hs : B u 6 = .ref (u + 3)) (hE : lset G 14) (hto : p + l.length ≤ 100) (hk : okS l 0) (hg : Seg (B (u + 3)) p l) : Sp d 51 [.ref u, vI p, vI ((p + l.length : Nat) : Int), .ref 14] (hp N L B G) (some (vI (bI (holdsS (G 14) l = true)))) (hp N L B G) := by
  refine e51 (by omega) ?_
  have := lp51_14 (d := d - 1) (f := (p : Int)) (L := L) (by omega) hu hs hE hto l p [] .null rfl hk hg (by decide)
  simp only [s51_0, s51_1, s51_3, s51_4, Int.toNat_natCast, Int.toNat_natCast, Nat.reduceAdd, Nat.reduceMul, Int.reduceToNat, Int.reduceAdd, Int.reduceLT, Int.reduceLE, Int.reduceEq, Int.reduceNeg, Int.reduceMul, Int.reduceSub, Nat.reduceSub, reduceIte, ite_true, ite_false, and_true, true_and, and_self]
  exact this
def sumS (E : Nat → Int) : List (Int × List Int) → Int → Int
  | [], s => s
  | (a, l) :: r, s => sumS E r (if holdsS E l = true then s + a else s)
def likingS (E : Nat → Int) (first : Int) (cl : List (Int × List Int)) : Int := max 0 (sumS E cl first)
theorem lp50_7 {d u N L n : Nat} {B : q_Bv} {G : q_Gi} {f : Int} (hd : 2 ≤ d) (hu : uarr u N) (b2 : B u 2 = vI (n : Int)) (b3 : B u 3 = .ref (u + 1)) (b4 : B u 4 = .ref (u + 2)) (b6 : B u 6 = .ref (u + 3)) (hE : lset G 7) (hn : n ≤ 10) : ∀ (cl : List (Int × List Int)) (i p : Nat) (s : Int), i + cl.length = n → p + toks cl ≤ 100 → Cls B u i p cl → (∀ c, c ∈ cl → (-99 ≤ c.1 ∧ c.1 ≤ 99) ∧ okS c.2 0) → (-(1000 + 99 * (i : Int)) ≤ s ∧ s ≤ 1000 + 99 * (i : Int)) → WP d 50 8 [.ref u, vI f, .ref 7, vI s, vI p, vI i] [] (hp N L B G) (fun r1 X1 => r1 = some (vI (max 0 (sumS (G 7) cl s))) ∧ X1 = hp N L B G) := by
  have hu0 := hu
  obtain ⟨hu1, hu2, hu3, hu4, hu5, hu7⟩ := hu
  intro cl
  induction cl with
  | nil =>
    intro i p s hi hp' hc hok hs
    have hi2 : ¬ ((i : Int) < (n : Int)) := by simp at hi; omega
    simp (disch := first | omega | assumption) only [s50_8, s50_10, m50_11, s50_14, s50_59, s50_60, s50_61, s50_64, Int.toNat_natCast, Int.toNat_natCast, Nat.reduceAdd, Nat.reduceMul, Int.reduceToNat, Int.reduceAdd, Int.reduceLT, Int.reduceLE, Int.reduceEq, Int.reduceNeg, Int.reduceMul, Int.reduceSub, Nat.reduceSub, reduceIte, ite_true, ite_false, and_true, true_and, and_self, b2, hi2, sumS]
  | cons c cl ih =>
    obtain ⟨a, l⟩ := c
    intro i p s hi hp' hc hok hs
    rw [List.length_cons] at hi
    have hi2 : (i : Int) < (n : Int) := by omega
    unfold toks at hp'
    obtain ⟨c1, c2, c3, c4⟩ := hc
    have ho := hok (a, l) (List.mem_cons_self)
    have ho1 : -99 ≤ a ∧ a ≤ 99 := ho.1
    have h51 := sp51_7 (d := d) (N := N) (L := L) (l := l) (p := p) hd hu0 b6 hE (by omega) ho.2 c3
    have e1 : ((i + 1 : Nat) : Int) = (i : Int) + 1 := by omega
    rw [s50_8]
    simp (disch := first | omega | assumption) only [s50_10, m50_11, s50_14, s50_17, s50_18, s50_20, m50_21, s50_24, m50_26, s50_27, s50_31, s50_31b, s50_34, s50_35, m50_36, s50_39, m50_41, s50_42, s50_43, s50_44, m50_45, s50_48, m50_50, s50_51, s50_53, s50_56, Int.toNat_natCast, Int.toNat_natCast, Nat.reduceAdd, Nat.reduceMul, Int.reduceToNat, Int.reduceAdd, Int.reduceLT, Int.reduceLE, Int.reduceEq, Int.reduceNeg, Int.reduceMul, Int.reduceSub, Nat.reduceSub, reduceIte, ite_true, ite_false, and_true, true_and, and_self, b2, b3, b4, hi2, c1, c2, m50_28 hu1 (by omega) h51]
    unfold sumS
    split
    · have := ih (i + 1) (p + l.length) (s + a) (by omega) (by omega) c4 (fun c hc => hok c (List.mem_cons_of_mem _ hc)) (by omega)
      rw [e1] at this
      exact this
    · have := ih (i + 1) (p + l.length) s (by omega) (by omega) c4 (fun c hc => hok c (List.mem_cons_of_mem _ hc)) (by omega)
      rw [e1] at this
      exact this
theorem sp50_7 {d u N L : Nat} {B : q_Bv} {G : q_Gi} {t g f : Int} {cl : List (Int × List Int)} (hd : 3 ≤ d) (hU : upl B N u t g cl) (hE : lset G 7) (hf : 0 ≤ f ∧ f ≤ 1000) : Sp d 50 [.ref u, vI f, .ref 7] (hp N L B G) (some (vI (likingS (G 7) f cl))) (hp N L B G) := by
  obtain ⟨u1, u2, u3, u4, u5, u6, u7, u8, u9, u10, u11, u12, u13, u14⟩ := hU
  refine e50 (by omega) ?_
  have := lp50_7 (d := d - 1) (L := L) (f := f) (by omega) (uarr_of u1 u2) u5 u6 u7 u8 hE u12 cl 0 0 f (by omega) (by omega) u9 u14 (by omega)
  simp only [s50_0, s50_1, s50_2, s50_3, s50_5, s50_6, Int.toNat_natCast, Int.toNat_natCast, Nat.reduceAdd, Nat.reduceMul, Int.reduceToNat, Int.reduceAdd, Int.reduceLT, Int.reduceLE, Int.reduceEq, Int.reduceNeg, Int.reduceMul, Int.reduceSub, Nat.reduceSub, reduceIte, ite_true, ite_false, and_true, true_and, and_self]
  exact this
theorem lp50_14 {d u N L n : Nat} {B : q_Bv} {G : q_Gi} {f : Int} (hd : 2 ≤ d) (hu : uarr u N) (b2 : B u 2 = vI (n : Int)) (b3 : B u 3 = .ref (u + 1)) (b4 : B u 4 = .ref (u + 2)) (b6 : B u 6 = .ref (u + 3)) (hE : lset G 14) (hn : n ≤ 10) : ∀ (cl : List (Int × List Int)) (i p : Nat) (s : Int), i + cl.length = n → p + toks cl ≤ 100 → Cls B u i p cl → (∀ c, c ∈ cl → (-99 ≤ c.1 ∧ c.1 ≤ 99) ∧ okS c.2 0) → (-(1000 + 99 * (i : Int)) ≤ s ∧ s ≤ 1000 + 99 * (i : Int)) → WP d 50 8 [.ref u, vI f, .ref 14, vI s, vI p, vI i] [] (hp N L B G) (fun r1 X1 => r1 = some (vI (max 0 (sumS (G 14) cl s))) ∧ X1 = hp N L B G) := by
  have hu0 := hu
  obtain ⟨hu1, hu2, hu3, hu4, hu5, hu7⟩ := hu
  intro cl
  induction cl with
  | nil =>
    intro i p s hi hp' hc hok hs
    have hi2 : ¬ ((i : Int) < (n : Int)) := by simp at hi; omega
    simp (disch := first | omega | assumption) only [s50_8, s50_10, m50_11, s50_14, s50_59, s50_60, s50_61, s50_64, Int.toNat_natCast, Int.toNat_natCast, Nat.reduceAdd, Nat.reduceMul, Int.reduceToNat, Int.reduceAdd, Int.reduceLT, Int.reduceLE, Int.reduceEq, Int.reduceNeg, Int.reduceMul, Int.reduceSub, Nat.reduceSub, reduceIte, ite_true, ite_false, and_true, true_and, and_self, b2, hi2, sumS]
  | cons c cl ih =>
    obtain ⟨a, l⟩ := c
    intro i p s hi hp' hc hok hs
    rw [List.length_cons] at hi
    have hi2 : (i : Int) < (n : Int) := by omega
    unfold toks at hp'
    obtain ⟨c1, c2, c3, c4⟩ := hc
    have ho := hok (a, l) (List.mem_cons_self)
    have ho1 : -99 ≤ a ∧ a ≤ 99 := ho.1
    have h51 := sp51_14 (d := d) (N := N) (L := L) (l := l) (p := p) hd hu0 b6 hE (by omega) ho.2 c3
    have e1 : ((i + 1 : Nat) : Int) = (i : Int) + 1 := by omega
    rw [s50_8]
    simp (disch := first | omega | assumption) only [s50_10, m50_11, s50_14, s50_17, s50_18, s50_20, m50_21, s50_24, m50_26, s50_27, s50_31, s50_31b, s50_34, s50_35, m50_36, s50_39, m50_41, s50_42, s50_43, s50_44, m50_45, s50_48, m50_50, s50_51, s50_53, s50_56, Int.toNat_natCast, Int.toNat_natCast, Nat.reduceAdd, Nat.reduceMul, Int.reduceToNat, Int.reduceAdd, Int.reduceLT, Int.reduceLE, Int.reduceEq, Int.reduceNeg, Int.reduceMul, Int.reduceSub, Nat.reduceSub, reduceIte, ite_true, ite_false, and_true, true_and, and_self, b2, b3, b4, hi2, c1, c2, m50_28 hu1 (by omega) h51]
    unfold sumS
    split
    · have := ih (i + 1) (p + l.length) (s + a) (by omega) (by omega) c4 (fun c hc => hok c (List.mem_cons_of_mem _ hc)) (by omega)
      rw [e1] at this
      exact this
    · have := ih (i + 1) (p + l.length) s (by omega) (by omega) c4 (fun c hc => hok c (List.mem_cons_of_mem _ hc)) (by omega)
      rw [e1] at this
      exact this
theorem sp50_14 {d u N L : Nat} {B : q_Bv} {G : q_Gi} {t g f : Int} {cl : List (Int × List Int)} (hd : 3 ≤ d) (hU : upl B N u t g cl) (hE : lset G 14) (hf : 0 ≤ f ∧ f ≤ 1000) : Sp d 50 [.ref u, vI f, .ref 14] (hp N L B G) (some (vI (likingS (G 14) f cl))) (hp N L B G) := by
  obtain ⟨u1, u2, u3, u4, u5, u6, u7, u8, u9, u10, u11, u12, u13, u14⟩ := hU
  refine e50 (by omega) ?_
  have := lp50_14 (d := d - 1) (L := L) (f := f) (by omega) (uarr_of u1 u2) u5 u6 u7 u8 hE u12 cl 0 0 f (by omega) (by omega) u9 u14 (by omega)
  simp only [s50_0, s50_1, s50_2, s50_3, s50_5, s50_6, Int.toNat_natCast, Int.toNat_natCast, Nat.reduceAdd, Nat.reduceMul, Int.reduceToNat, Int.reduceAdd, Int.reduceLT, Int.reduceLE, Int.reduceEq, Int.reduceNeg, Int.reduceMul, Int.reduceSub, Nat.reduceSub, reduceIte, ite_true, ite_false, and_true, true_and, and_self]
  exact this
theorem sumS_r (E : Nat → Int) : ∀ (cl : List (Int × List Int)) (s : Int), (∀ c, c ∈ cl → (-99 ≤ c.1 ∧ c.1 ≤ 99) ∧ okS c.2 0) → s - 99 * (cl.length : Int) ≤ sumS E cl s ∧ sumS E cl s ≤ s + 99 * (cl.length : Int) := by
  intro cl
  induction cl with
  | nil => intro s _; simp only [sumS, List.length_nil]; omega
  | cons c cl ih =>
    obtain ⟨a, l⟩ := c
    intro s hok
    have ho1 : -99 ≤ a ∧ a ≤ 99 := (hok (a, l) (List.mem_cons_self)).1
    have h2 := ih (if holdsS E l = true then s + a else s) (fun c hc => hok c (List.mem_cons_of_mem _ hc))
    unfold sumS
    rw [List.length_cons]
    split at h2 <;> rename_i hc
    · rw [if_pos hc]; omega
    · rw [if_neg hc]; omega
theorem likingS_r {E : Nat → Int} {B : q_Bv} {N u : Nat} {t g f : Int} {cl : List (Int × List Int)} (hU : upl B N u t g cl) (hf : 0 ≤ f ∧ f ≤ 1000) : 0 ≤ likingS E f cl ∧ likingS E f cl ≤ 2000 := by
  obtain ⟨u1, u2, u3, u4, u5, u6, u7, u8, u9, u10, u11, u12, u13, u14⟩ := hU
  have := sumS_r E cl f u14
  unfold likingS
  omega
