/-! the class's calls: on, tuned, dear -/
def r65 (t g : Int) (H : q_Gi) (n w : Int) : Int := if w = 0 ∨ (10 ≤ w ∧ w < 10 + H 0 0) ∨ (20 ≤ w ∧ w < 24) then (if 0 ≤ n ∧ n ≤ 60 then (if 10 ≤ w ∧ w < 10 + H 0 0 then daysS g n.toNat H 3 (w - 10).toNat else if 20 ≤ w ∧ w < 24 then daysS g n.toNat H 5 (w - 20).toNat else tbS (tunS t (daysS g n.toNat H)) (H 0 0).toNat) else -2) else -1
theorem sp65 {d u N L : Nat} {t g n w : Int} {cl : List (Int × List Int)} {B : q_Bv} {G H : q_Gi} (hd : 8 ≤ d) (hv : hv1 G H) (ho : Hok H) (hday : H 0 1 ≤ 9999) (hu : G 1 8 = (u : Int)) (hU : upl B N u t g cl) (hn : -2147483648 ≤ n ∧ n ≤ 2147483647) (hw : -2147483648 ≤ w ∧ w ≤ 2147483647) : ∃ G', Sp d 65 [.ref 0, vI n, vI w] (hp N L B G) (some (vI (r65 t g H n w))) (hp N L B G') ∧ qf G G' := by
  have hv0 := hv.1
  have hc := ho.1
  -- which of the three is asked
  have hb1 : ∃ s3, (s3 = bI (10 ≤ w ∧ w < 10 + H 0 0)) := ⟨_, rfl⟩
  have hb2 : ∃ s4, (s4 = bI (20 ≤ w ∧ w < 24)) := ⟨_, rfl⟩
  obtain ⟨s3, hs3⟩ := hb1
  obtain ⟨s4, hs4⟩ := hb2
  have start : ∀ Q, WP (d - 1) 65 46 [.ref 0, vI n, vI w, vI s3, vI s4] [] (hp N L B G) Q → WP (d - 1) 65 0 [.ref 0, vI n, vI w, .null, .null] [] (hp N L B G) Q := by
    intro Q hQ
    have step2 : ∀ (x : Value), WP (d - 1) 65 23 [.ref 0, vI n, vI w, vI s3, x] [] (hp N L B G) Q := by
      intro x
      by_cases c : w < 20
      · rw [bI_f (by omega)] at hs4
        subst hs4
        simp (disch := omega) only [s65_23, s65_24, s65_26, s65_29, s65_30, s65_32, s65_36, s65_36b, s65_39, s65_40, s65_43, s65_44, Int.toNat_natCast, Int.toNat_natCast, Nat.reduceAdd, Nat.reduceMul, Int.reduceToNat, Int.reduceAdd, Int.reduceLT, Int.reduceLE, Int.reduceEq, Int.reduceNeg, Int.reduceMul, Int.reduceSub, Nat.reduceSub, reduceIte, ite_true, ite_false, and_true, true_and, and_self, c]; exact hQ
      · have h95 := sp95 (d := d - 1) (z := w - 20) (X := hp N L B G) (by omega) (by omega)
        by_cases c2 : w < 24
        · rw [bI_t (by omega)] at hs4
          subst hs4
          have c3 : 0 ≤ w - 20 ∧ w - 20 < 4 := by omega
          simp (disch := omega) only [s65_23, s65_24, s65_26, s65_29, s65_30, s65_32, s65_36, s65_36b, s65_39, s65_40, s65_43, s65_44, Int.toNat_natCast, Int.toNat_natCast, Nat.reduceAdd, Nat.reduceMul, Int.reduceToNat, Int.reduceAdd, Int.reduceLT, Int.reduceLE, Int.reduceEq, Int.reduceNeg, Int.reduceMul, Int.reduceSub, Nat.reduceSub, reduceIte, ite_true, ite_false, and_true, true_and, and_self, c, c65_33 h95, c3]; exact hQ
        · rw [bI_f (by omega)] at hs4
          subst hs4
          have c3 : ¬ (0 ≤ w - 20 ∧ w - 20 < 4) := by omega
          simp (disch := omega) only [s65_23, s65_24, s65_26, s65_29, s65_30, s65_32, s65_36, s65_36b, s65_39, s65_40, s65_43, s65_44, Int.toNat_natCast, Int.toNat_natCast, Nat.reduceAdd, Nat.reduceMul, Int.reduceToNat, Int.reduceAdd, Int.reduceLT, Int.reduceLE, Int.reduceEq, Int.reduceNeg, Int.reduceMul, Int.reduceSub, Nat.reduceSub, reduceIte, ite_true, ite_false, and_true, true_and, and_self, c, c65_33 h95, c3]; exact hQ
    by_cases c : w < 10
    · have hs3' := hs3
      rw [bI_f (by omega)] at hs3'
      have h2 := step2 .null
      rw [hs3'] at h2
      simp (disch := omega) only [s65_0, s65_1, s65_3, s65_6, s65_7, s65_8, s65_10, s65_14, s65_14b, s65_17, s65_18, s65_21, s65_22, Int.toNat_natCast, Int.toNat_natCast, Nat.reduceAdd, Nat.reduceMul, Int.reduceToNat, Int.reduceAdd, Int.reduceLT, Int.reduceLE, Int.reduceEq, Int.reduceNeg, Int.reduceMul, Int.reduceSub, Nat.reduceSub, reduceIte, ite_true, ite_false, and_true, true_and, and_self, c]; exact h2
    · have h94 := sp94 (d := d - 1) (N := N) (L := L) (B := B) (G := G) (z := w - 10) (by omega) (by omega) (by rw [hv0]; exact ho.1)
      rw [hv0] at h94
      have hs3' := hs3
      have h2 := step2 .null
      by_cases c2 : w < 10 + H 0 0
      · rw [bI_t (by omega)] at hs3'
        rw [hs3'] at h2
        have c3 : 0 ≤ w - 10 ∧ w - 10 < H 0 0 := by omega
        simp (disch := omega) only [s65_0, s65_1, s65_3, s65_6, s65_7, s65_8, s65_10, s65_14, s65_14b, s65_17, s65_18, s65_21, s65_22, Int.toNat_natCast, Int.toNat_natCast, Nat.reduceAdd, Nat.reduceMul, Int.reduceToNat, Int.reduceAdd, Int.reduceLT, Int.reduceLE, Int.reduceEq, Int.reduceNeg, Int.reduceMul, Int.reduceSub, Nat.reduceSub, reduceIte, ite_true, ite_false, and_true, true_and, and_self, c, m65_11 h94, c3]; exact h2
      · rw [bI_f (by omega)] at hs3'
        rw [hs3'] at h2
        have c3 : ¬ (0 ≤ w - 10 ∧ w - 10 < H 0 0) := by omega
        simp (disch := omega) only [s65_0, s65_1, s65_3, s65_6, s65_7, s65_8, s65_10, s65_14, s65_14b, s65_17, s65_18, s65_21, s65_22, Int.toNat_natCast, Int.toNat_natCast, Nat.reduceAdd, Nat.reduceMul, Int.reduceToNat, Int.reduceAdd, Int.reduceLT, Int.reduceLE, Int.reduceEq, Int.reduceNeg, Int.reduceMul, Int.reduceSub, Nat.reduceSub, reduceIte, ite_true, ite_false, and_true, true_and, and_self, c, m65_11 h94, c3]; exact h2
  have h98 := sp98 (d := d - 1) (z := n) (m := 60) (X := hp N L B G) (by omega) hn (by omega)
  by_cases c0 : w = 0 ∨ (10 ≤ w ∧ w < 10 + H 0 0) ∨ (20 ≤ w ∧ w < 24)
  · have pass1 : ∀ Q, WP (d - 1) 65 61 [.ref 0, vI n, vI w, vI s3, vI s4] [] (hp N L B G) Q → WP (d - 1) 65 46 [.ref 0, vI n, vI w, vI s3, vI s4] [] (hp N L B G) Q := by
      intro Q hQ
      rcases c0 with rfl | h | h
      · simp (disch := omega) only [s65_46, s65_47, s65_47b, s65_50, s65_51, s65_51b, s65_54, s65_56, s65_56b, s65_59, s65_60, Int.toNat_natCast, Int.toNat_natCast, Nat.reduceAdd, Nat.reduceMul, Int.reduceToNat, Int.reduceAdd, Int.reduceLT, Int.reduceLE, Int.reduceEq, Int.reduceNeg, Int.reduceMul, Int.reduceSub, Nat.reduceSub, reduceIte, ite_true, ite_false, and_true, true_and, and_self]; exact hQ
      · have hw0 : ¬ w = 0 := by omega
        rw [hs3] at hQ ⊢
        simp (disch := omega) only [s65_46, s65_47, s65_47b, s65_50, s65_51, s65_51b, s65_54, s65_56, s65_56b, s65_59, s65_60, Int.toNat_natCast, Int.toNat_natCast, Nat.reduceAdd, Nat.reduceMul, Int.reduceToNat, Int.reduceAdd, Int.reduceLT, Int.reduceLE, Int.reduceEq, Int.reduceNeg, Int.reduceMul, Int.reduceSub, Nat.reduceSub, reduceIte, ite_true, ite_false, and_true, true_and, and_self, hw0, h]; simp only [h, and_self] at hQ; exact hQ
      · have hw0 : ¬ w = 0 := by omega
        rw [hs4] at hQ ⊢
        by_cases h2 : s3 = 0
        · simp (disch := omega) only [s65_46, s65_47, s65_47b, s65_50, s65_51, s65_51b, s65_54, s65_56, s65_56b, s65_59, s65_60, Int.toNat_natCast, Int.toNat_natCast, Nat.reduceAdd, Nat.reduceMul, Int.reduceToNat, Int.reduceAdd, Int.reduceLT, Int.reduceLE, Int.reduceEq, Int.reduceNeg, Int.reduceMul, Int.reduceSub, Nat.reduceSub, reduceIte, ite_true, ite_false, and_true, true_and, and_self, hw0, h2, h]; simp only [h, h2, and_self] at hQ; exact hQ
        · have : s3 = 0 ∨ s3 = 1 := by rw [hs3]; exact bI_01 _
          simp (disch := omega) only [s65_46, s65_47, s65_47b, s65_50, s65_51, s65_51b, s65_54, s65_56, s65_56b, s65_59, s65_60, Int.toNat_natCast, Int.toNat_natCast, Nat.reduceAdd, Nat.reduceMul, Int.reduceToNat, Int.reduceAdd, Int.reduceLT, Int.reduceLE, Int.reduceEq, Int.reduceNeg, Int.reduceMul, Int.reduceSub, Nat.reduceSub, reduceIte, ite_true, ite_false, and_true, true_and, and_self, hw0, h2]; exact hQ
    by_cases c1 : 0 ≤ n ∧ n ≤ 60
    · obtain ⟨k, rfl⟩ : ∃ k : Nat, n = (k : Int) := ⟨n.toNat, by omega⟩
      obtain ⟨G1, h100, w100, o100, u100, f100⟩ := sp100 (d := d - 1) (L := L) (n := k) (by omega) (by omega) hv ho (by omega) hu hU
      refine ⟨G1, ?_, fun a ha => f100 a (by omega)⟩
      refine e65 (by omega) (start _ (pass1 _ ?_))
      by_cases a1 : 10 ≤ w ∧ w < 10 + H 0 0
      · have e3 := w100.2.2.2.2.2.1 (w - 10).toNat (by omega)
        rw [bI_t a1] at hs3
        subst hs3
        simp (disch := omega) only [s65_61, s65_62, s65_67, s65_67b, s65_70, s65_72, s65_73, s65_74, s65_78, s65_79, s65_79b, s65_82, m65_83, m65_86, s65_89, s65_90, s65_92, m65_93, s65_94, Int.toNat_natCast, Int.toNat_natCast, Nat.reduceAdd, Nat.reduceMul, Int.reduceToNat, Int.reduceAdd, Int.reduceLT, Int.reduceLE, Int.reduceEq, Int.reduceNeg, Int.reduceMul, Int.reduceSub, Nat.reduceSub, reduceIte, ite_true, ite_false, and_true, true_and, and_self, c65_64 h98, c1, m65_75 h100, e3, r65, a1, or_true, true_or]
      · rw [bI_f a1] at hs3
        subst hs3
        by_cases a2 : 20 ≤ w ∧ w < 24
        · have e5 := w100.2.2.2.2.2.2.2 (w - 20).toNat (by omega)
          rw [bI_t a2] at hs4
          subst hs4
          simp (disch := omega) only [s65_61, s65_62, s65_67, s65_67b, s65_70, s65_72, s65_73, s65_74, s65_78, s65_79, s65_79b, s65_82, m65_83, m65_86, s65_89, s65_90, s65_92, m65_93, s65_94, s65_95, s65_97, s65_97b, s65_100, m65_101, m65_104, s65_107, s65_108, s65_110, m65_111, s65_112, s65_115, m65_116, s65_122, Int.toNat_natCast, Int.toNat_natCast, Nat.reduceAdd, Nat.reduceMul, Int.reduceToNat, Int.reduceAdd, Int.reduceLT, Int.reduceLE, Int.reduceEq, Int.reduceNeg, Int.reduceMul, Int.reduceSub, Nat.reduceSub, reduceIte, ite_true, ite_false, and_true, true_and, and_self, c65_64 h98, c1, m65_75 h100, e5, r65, a1, a2, or_true]
        · rw [bI_f a2] at hs4
          subst hs4
          obtain ⟨m, hm⟩ : ∃ m : Nat, H 0 0 = (m : Int) := ⟨(H 0 0).toNat, by omega⟩
          have a0 : w = 0 := by omega
          have h10 := sp10_8 (d := d - 1) (L := L) (by omega) w100 o100 (by rw [daysS_cnt]; exact hm) u100 hU
          subst a0
          simp (disch := omega) only [s65_61, s65_62, s65_67, s65_67b, s65_70, s65_72, s65_73, s65_74, s65_78, s65_79, s65_79b, s65_82, m65_83, m65_86, s65_89, s65_90, s65_92, m65_93, s65_94, s65_95, s65_97, s65_97b, s65_100, m65_101, m65_104, s65_107, s65_108, s65_110, m65_111, s65_112, s65_115, m65_116, s65_122, Int.toNat_natCast, Int.toNat_natCast, Nat.reduceAdd, Nat.reduceMul, Int.reduceToNat, Int.reduceAdd, Int.reduceLT, Int.reduceLE, Int.reduceEq, Int.reduceNeg, Int.reduceMul, Int.reduceSub, Nat.reduceSub, reduceIte, ite_true, ite_false, and_true, true_and, and_self, c65_64 h98, c1, m65_75 h100, m65_119 h10, r65, hm, false_and, or_false]
    · refine ⟨G, ?_, qf_r G⟩
      refine e65 (by omega) (start _ (pass1 _ ?_))
      simp (disch := omega) only [s65_61, s65_62, s65_67, s65_67b, s65_70, s65_72, Int.toNat_natCast, Int.toNat_natCast, Nat.reduceAdd, Nat.reduceMul, Int.reduceToNat, Int.reduceAdd, Int.reduceLT, Int.reduceLE, Int.reduceEq, Int.reduceNeg, Int.reduceMul, Int.reduceSub, Nat.reduceSub, reduceIte, ite_true, ite_false, and_true, true_and, and_self, c65_64 h98, c1, r65, c0]
  · refine ⟨G, ?_, qf_r G⟩
    refine e65 (by omega) (start _ ?_)
    have a0 : ¬ w = 0 := by omega
    rw [bI_f (by omega)] at hs3 hs4
    subst hs3 hs4
    have hr : r65 t g H n w = -1 := if_neg c0
    simp (disch := omega) only [s65_46, s65_47, s65_47b, s65_50, s65_51, s65_51b, s65_54, s65_56, s65_56b, s65_59, s65_60, Int.toNat_natCast, Int.toNat_natCast, Nat.reduceAdd, Nat.reduceMul, Int.reduceToNat, Int.reduceAdd, Int.reduceLT, Int.reduceLE, Int.reduceEq, Int.reduceNeg, Int.reduceMul, Int.reduceSub, Nat.reduceSub, reduceIte, ite_true, ite_false, and_true, true_and, and_self, a0, hr]
/-- the first of the next m days (this one is k) on which the bell's being in tune is as sought -/
def seekS (t g : Int) (s : Bool) (b : Nat) : Nat → Nat → q_Gi → Int
  | 0, _, _ => -5
  | m + 1, k, H => if tunS t H b = s then (k : Int) else seekS t g s b m (k + 1) (dayS g H)
def r66 (t g : Int) (H : q_Gi) (b w : Int) : Int := if (0 ≤ b ∧ b < H 0 0) ∧ (w = 0 ∨ w = 1) then seekS t g (decide (w = 1)) b.toNat 61 0 H else -1
theorem lp66 {d u N L b : Nat} {t g w : Int} {s : Bool} {cl : List (Int × List Int)} {B : q_Bv} (hd : 6 ≤ d) (hU : upl B N u t g cl) (hb : b < 6) {Q : Option Value → q_H → Prop} : ∀ (m k : Nat) (G H : q_Gi) (x : Value), k + m = 61 → hv8 G H → Hok H → H 0 1 + (m : Int) ≤ 20000 → G 8 8 = (u : Int) → (∀ G', (∀ a, (a < 8 ∨ 14 < a) → G' a = G a) → Q (some (vI (seekS t g s b m k H))) (hp N L B G')) → WP d 66 38 [.ref 0, vI b, vI w, vI (bI (s = true)), vI k] [] (hp N L B G) Q := by
  have hg : 0 ≤ g ∧ g ≤ 99 := hU.2.2.2.2.2.2.2.2.2.2.1
  intro m
  induction m with
  | zero =>
    intro k G H x hk hv ho hday hu hQ
    have hlt : (60 : Int) < (k : Int) := by omega
    have := hQ G (fun _ _ => rfl)
    simp (disch := omega) only [s66_38, s66_40, s66_42, s66_82, s66_84, Int.toNat_natCast, Int.toNat_natCast, Nat.reduceAdd, Nat.reduceMul, Int.reduceToNat, Int.reduceAdd, Int.reduceLT, Int.reduceLE, Int.reduceEq, Int.reduceNeg, Int.reduceMul, Int.reduceSub, Nat.reduceSub, reduceIte, ite_true, ite_false, and_true, true_and, and_self, hlt]
    exact this
  | succ m ih =>
    intro k G H x hk hv ho hday hu hQ
    have hlt : ¬ ((60 : Int) < (k : Int)) := by omega
    have hok' := hok8_v hv ho
    have h3 := ho.2.2.2.1 b hb
    have h9 := sp9_8 (d := d) (L := L) (f := H 3 b) (by omega) hok' hu hU hb (by omega)
    rw [hv.2.2.2.1 b hb, hv.2.2.2.2.1 b hb] at h9
    change Sp d 9 _ _ (some (vI (bI (tunS t H b = true)))) _ at h9
    obtain ⟨G1, h14, w14, f14⟩ := sp14_8 (d := d) (L := L) (by omega) hv ho hu hU
    have e1 : dayS g H 0 1 = H 0 1 + 1 := rfl
    rw [s66_38]
    simp (disch := omega) only [s66_40, s66_42, s66_45, m66_46, s66_49, s66_50, m66_51, m66_54, s66_57, m66_58, s66_62, s66_63, s66_63b, Int.toNat_natCast, Int.toNat_natCast, Nat.reduceAdd, Nat.reduceMul, Int.reduceToNat, Int.reduceAdd, Int.reduceLT, Int.reduceLE, Int.reduceEq, Int.reduceNeg, Int.reduceMul, Int.reduceSub, Nat.reduceSub, reduceIte, ite_true, ite_false, and_true, true_and, and_self, hlt, hv.2.2.2.2.2.1 b hb, m66_59 h9]
    by_cases c : tunS t H b = s
    · rw [if_pos (by rw [c])]
      have := hQ G (fun _ _ => rfl)
      unfold seekS at this
      rw [if_pos c] at this
      simp (disch := omega) only [s66_66, s66_68, Int.toNat_natCast, Int.toNat_natCast, Nat.reduceAdd, Nat.reduceMul, Int.reduceToNat, Int.reduceAdd, Int.reduceLT, Int.reduceLE, Int.reduceEq, Int.reduceNeg, Int.reduceMul, Int.reduceSub, Nat.reduceSub, reduceIte, ite_true, ite_false, and_true, true_and, and_self]
      exact this
    · rw [if_neg (by cases h : tunS t H b <;> cases s <;> simp_all)]
      have := ih (k + 1) G1 (dayS g H) x (by omega) w14 (dayS_ok hg ho (by omega)) (by omega) (by rw [f14.2, hu]) (fun G' hG' => by
        have := hQ G' (fun a ha => by rw [hG' a ha, f14.1 a ha])
        unfold seekS at this
        rw [if_neg c] at this
        exact this)
      rw [show ((k + 1 : Nat) : Int) = (k : Int) + 1 from rfl] at this
      simp (disch := omega) only [s66_69, m66_70, s66_76, s66_79, Int.toNat_natCast, Int.toNat_natCast, Nat.reduceAdd, Nat.reduceMul, Int.reduceToNat, Int.reduceAdd, Int.reduceLT, Int.reduceLE, Int.reduceEq, Int.reduceNeg, Int.reduceMul, Int.reduceSub, Nat.reduceSub, reduceIte, ite_true, ite_false, and_true, true_and, and_self, m66_73 h14]
      exact this
theorem sp66 {d u N L : Nat} {t g b w : Int} {cl : List (Int × List Int)} {B : q_Bv} {G H : q_Gi} (hd : 8 ≤ d) (hv : hv1 G H) (ho : Hok H) (hday : H 0 1 ≤ 9999) (hu : G 1 8 = (u : Int)) (hU : upl B N u t g cl) (hb : -2147483648 ≤ b ∧ b ≤ 2147483647) (hw : -2147483648 ≤ w ∧ w ≤ 2147483647) : ∃ G', Sp d 66 [.ref 0, vI b, vI w] (hp N L B G) (some (vI (r66 t g H b w))) (hp N L B G') ∧ qf G G' := by
  have hv0 := hv.1
  have hc := ho.1
  have h94 := sp94 (d := d - 1) (N := N) (L := L) (B := B) (G := G) (by omega) hb (by rw [hv0]; exact ho.1)
  rw [hv0] at h94
  by_cases c1 : 0 ≤ b ∧ b < H 0 0
  · obtain ⟨k, rfl⟩ : ∃ k : Nat, b = (k : Int) := ⟨b.toNat, by omega⟩
    by_cases c2 : w = 0 ∨ w = 1
    · obtain ⟨G1, h100, w100, o100, u100, f100⟩ := sp100 (d := d - 1) (L := L) (n := 0) (by omega) (by omega) hv ho (by omega) hu hU
      have h100 : Sp (d - 1) 100 [.ref 0, vI 0] (hp N L B G) none (hp N L B G1) := h100
      obtain ⟨r, X', hS, G', hr, hX, hq⟩ := E66 (d := d) (X := hp N L B G) (z1 := (k : Int)) (z2 := w) (Q := fun r X => ∃ G', r = some (vI (r66 t g H k w)) ∧ X = hp N L B G' ∧ qf G G') (by omega) (by
        have lp := lp66 (d := d - 1) (u := u) (N := N) (L := L) (b := k) (t := t) (g := g) (w := w) (s := decide (w = 1)) (cl := cl) (B := B) (by omega) hU (by omega) (Q := fun r X => ∃ G', r = some (vI (r66 t g H k w)) ∧ X = hp N L B G' ∧ qf G G') 61 0 G1 H .null (by omega) w100 ho (by omega) u100 (fun G' hG' => ⟨G', by simp only [r66, c1, c2, Int.toNat_natCast, Int.toNat_natCast, Nat.reduceAdd, Nat.reduceMul, Int.reduceToNat, Int.reduceAdd, Int.reduceLT, Int.reduceLE, Int.reduceEq, Int.reduceNeg, Int.reduceMul, Int.reduceSub, Nat.reduceSub, reduceIte, ite_true, ite_false, and_true, true_and, and_self], rfl, fun a ha => by rw [hG' a (by omega), f100 a (by omega)]⟩)
        rcases c2 with rfl | rfl
        · simp (disch := omega) only [s66_0, s66_1, s66_5, s66_5b, s66_8, s66_9, s66_12, s66_13, s66_14, s66_17, s66_18, s66_19, s66_20, s66_21, s66_21b, s66_24, s66_25, s66_28, s66_29, s66_30, s66_31, s66_35, s66_36, Int.toNat_natCast, Int.toNat_natCast, Nat.reduceAdd, Nat.reduceMul, Int.reduceToNat, Int.reduceAdd, Int.reduceLT, Int.reduceLE, Int.reduceEq, Int.reduceNeg, Int.reduceMul, Int.reduceSub, Nat.reduceSub, reduceIte, ite_true, ite_false, and_true, true_and, and_self, m66_2 h94, c1, m66_32 h100]
          exact lp
        · simp (disch := omega) only [s66_0, s66_1, s66_5, s66_5b, s66_8, s66_9, s66_12, s66_13, s66_14, s66_17, s66_18, s66_19, s66_20, s66_21, s66_21b, s66_24, s66_25, s66_28, s66_29, s66_30, s66_31, s66_35, s66_36, Int.toNat_natCast, Int.toNat_natCast, Nat.reduceAdd, Nat.reduceMul, Int.reduceToNat, Int.reduceAdd, Int.reduceLT, Int.reduceLE, Int.reduceEq, Int.reduceNeg, Int.reduceMul, Int.reduceSub, Nat.reduceSub, reduceIte, ite_true, ite_false, and_true, true_and, and_self, m66_2 h94, c1, m66_32 h100]
          exact lp)
      exact ⟨G', by rw [hr, hX] at hS; exact hS, hq⟩
    · refine ⟨G, ?_, qf_r G⟩
      refine e66 (by omega) ?_
      by_cases c3 : w < 0
      · simp (disch := omega) only [s66_0, s66_1, s66_5, s66_5b, s66_8, s66_9, s66_12, s66_13, s66_14, s66_17, s66_18, Int.toNat_natCast, Int.toNat_natCast, Nat.reduceAdd, Nat.reduceMul, Int.reduceToNat, Int.reduceAdd, Int.reduceLT, Int.reduceLE, Int.reduceEq, Int.reduceNeg, Int.reduceMul, Int.reduceSub, Nat.reduceSub, reduceIte, ite_true, ite_false, and_true, true_and, and_self, m66_2 h94, c1, c3, r66, c2, and_false]
      · have c4 : 1 < w := by omega
        simp (disch := omega) only [s66_0, s66_1, s66_5, s66_5b, s66_8, s66_9, s66_12, s66_13, s66_14, s66_17, s66_18, Int.toNat_natCast, Int.toNat_natCast, Nat.reduceAdd, Nat.reduceMul, Int.reduceToNat, Int.reduceAdd, Int.reduceLT, Int.reduceLE, Int.reduceEq, Int.reduceNeg, Int.reduceMul, Int.reduceSub, Nat.reduceSub, reduceIte, ite_true, ite_false, and_true, true_and, and_self, m66_2 h94, c1, c3, c4, r66, c2, and_false]
  · refine ⟨G, ?_, qf_r G⟩
    refine e66 (by omega) ?_
    simp (disch := omega) only [s66_0, s66_1, s66_5, s66_5b, s66_8, s66_9, s66_12, s66_13, s66_14, s66_17, s66_18, Int.toNat_natCast, Int.toNat_natCast, Nat.reduceAdd, Nat.reduceMul, Int.reduceToNat, Int.reduceAdd, Int.reduceLT, Int.reduceLE, Int.reduceEq, Int.reduceNeg, Int.reduceMul, Int.reduceSub, Nat.reduceSub, reduceIte, ite_true, ite_false, and_true, true_and, and_self, m66_2 h94, c1, r66, false_and]
