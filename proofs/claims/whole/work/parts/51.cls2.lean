/-! the class's calls: told, eats, pass, strike, on, tuned, dear -/
theorem daysS_day (g : Int) : ∀ (n : Nat) (H : q_Gi), daysS g n H 0 1 = H 0 1 + n := by
  intro n
  induction n with
  | zero => intro H; simp [daysS]
  | succ n ih => intro H; unfold daysS; rw [ih]; show H 0 1 + 1 + (n : Int) = _; omega
theorem daysS_cnt (g : Int) : ∀ (n : Nat) (H : q_Gi), daysS g n H 0 0 = H 0 0 := by
  intro n
  induction n with
  | zero => intro H; rfl
  | succ n ih => intro H; unfold daysS; rw [ih]; rfl
def eatC (cl : List (Int × List Int)) (b e : Nat) (H : q_Gi) : q_Gi := setS (eatS cl b e H) 0 2 (min (H 0 2 + 1) 99999)
theorem hv1_set02 {G H : q_Gi} {z : Int} (hv : hv1 G H) : hv1 (ug G 1 7 z) (setS H 0 2 z) := by
  obtain ⟨v0, v6, v7, v1, v2, v3, v4, v5⟩ := hv
  exact ⟨v0, v6, by rw [ug_at]; rfl, v1, v2, v3, v4, v5⟩
def x62 (cl : List (Int × List Int)) (H : q_Gi) (b e : Int) : Int × q_Gi := if (0 ≤ b ∧ b < H 0 0) ∧ (0 ≤ e ∧ e < 4) then (if H 5 e.toNat = 0 then (-3, H) else (eatC cl b.toNat e.toNat H 3 b.toNat, eatC cl b.toNat e.toNat H)) else (-1, H)
theorem sp62 {d u N L : Nat} {t g b e : Int} {cl : List (Int × List Int)} {B : q_Bv} {G H : q_Gi} (hd : 8 ≤ d) (hv : hv1 G H) (ho : Hok H) (hu : G 1 8 = (u : Int)) (hU : upl B N u t g cl) (hb : -2147483648 ≤ b ∧ b ≤ 2147483647) (he : -2147483648 ≤ e ∧ e ≤ 2147483647) : ∃ G', Sp d 62 [.ref 0, vI b, vI e] (hp N L B G) (some (vI (x62 cl H b e).1)) (hp N L B G') ∧ hv1 G' (x62 cl H b e).2 ∧ fr1 G G' := by
  have hv0 := hv.1
  have h94 := sp94 (d := d - 1) (N := N) (L := L) (B := B) (G := G) (by omega) hb (by rw [hv0]; exact ho.1)
  rw [hv0] at h94
  have h95 := sp95 (d := d - 1) (z := e) (X := hp N L B G) (by omega) he
  have hc := ho.1
  by_cases c1 : 0 ≤ b ∧ b < H 0 0
  · obtain ⟨k, rfl⟩ : ∃ k : Nat, b = (k : Int) := ⟨b.toNat, by omega⟩
    by_cases c2 : 0 ≤ e ∧ e < 4
    · obtain ⟨j, rfl⟩ : ∃ j : Nat, e = (j : Int) := ⟨e.toNat, by omega⟩
      have e5 := hv.2.2.2.2.2.2.2 j (by omega)
      have r5 := ho.2.2.2.2.2.1 j (by omega)
      by_cases c3 : H 5 j = 0
      · refine ⟨G, ?_, ?_, fr1_r G⟩
        · refine e62 (by omega) ?_
          simp (disch := omega) only [s62_0, s62_1, s62_5, s62_5b, s62_8, s62_12, s62_12b, s62_15, s62_16, s62_17, m62_18, m62_21, s62_24, m62_25, s62_26, s62_26b, s62_29, s62_31, s62_32, m62_33, s62_36, s62_37, s62_41, m62_42, s62_45, m62_46, m62_49, s62_52, s62_54, m62_57, s62_60, m62_61, m62_64, s62_67, m62_68, s62_69, Int.toNat_natCast, Int.toNat_natCast, Nat.reduceAdd, Nat.reduceMul, Int.reduceToNat, Int.reduceAdd, Int.reduceLT, Int.reduceLE, Int.reduceEq, Int.reduceNeg, Int.reduceMul, Int.reduceSub, Nat.reduceSub, reduceIte, ite_true, ite_false, and_true, true_and, and_self, m62_2 h94, c62_9 h95, c1, c2, e5, c3, x62]
        · simp only [x62, Int.toNat_natCast, Int.toNat_natCast, Nat.reduceAdd, Nat.reduceMul, Int.reduceToNat, Int.reduceAdd, Int.reduceLT, Int.reduceLE, Int.reduceEq, Int.reduceNeg, Int.reduceMul, Int.reduceSub, Nat.reduceSub, reduceIte, ite_true, ite_false, and_true, true_and, and_self, c1, c2, c3]; exact hv
      · obtain ⟨G1, h13, w13, f13⟩ := sp13_1 (d := d - 1) (L := L) (b := k) (e := j) (by omega) (by omega) (by omega) hv ho hu hU
        have w7 : G1 1 7 = H 0 2 + 1 := w13.2.2.1
        have w3 : G1 4 k = eatS cl k j H 3 k := w13.2.2.2.2.2.1 k (by omega)
        have h7 := ho.2.2.2.2.2.2.2
        refine ⟨ug G1 1 7 (min (H 0 2 + 1) 99999), ?_, ?_, ?_⟩
        · refine e62 (by omega) ?_
          simp (disch := omega) only [s62_0, s62_1, s62_5, s62_5b, s62_8, s62_12, s62_12b, s62_15, s62_16, s62_17, m62_18, m62_21, s62_24, m62_25, s62_26, s62_26b, s62_29, s62_31, s62_32, m62_33, s62_36, s62_37, s62_41, m62_42, s62_45, m62_46, m62_49, s62_52, s62_54, m62_57, s62_60, m62_61, m62_64, s62_67, m62_68, s62_69, Int.toNat_natCast, Int.toNat_natCast, Nat.reduceAdd, Nat.reduceMul, Int.reduceToNat, Int.reduceAdd, Int.reduceLT, Int.reduceLE, Int.reduceEq, Int.reduceNeg, Int.reduceMul, Int.reduceSub, Nat.reduceSub, reduceIte, ite_true, ite_false, and_true, true_and, and_self, m62_2 h94, c62_9 h95, c1, c2, e5, c3, x62, m62_38 h13, w7, ug_ne, w3]
          rfl
        · simp only [x62, Int.toNat_natCast, Int.toNat_natCast, Nat.reduceAdd, Nat.reduceMul, Int.reduceToNat, Int.reduceAdd, Int.reduceLT, Int.reduceLE, Int.reduceEq, Int.reduceNeg, Int.reduceMul, Int.reduceSub, Nat.reduceSub, reduceIte, ite_true, ite_false, and_true, true_and, and_self, c1, c2, c3]; exact hv1_set02 w13
        · refine fr1_t f13 ⟨fun a ha => ug_ne (by omega), by rw [ug_k (by omega)]⟩
    · refine ⟨G, ?_, ?_, fr1_r G⟩
      · refine e62 (by omega) ?_
        simp (disch := omega) only [s62_0, s62_1, s62_5, s62_5b, s62_8, s62_12, s62_12b, s62_15, s62_16, s62_17, m62_18, m62_21, s62_24, m62_25, s62_26, s62_26b, s62_29, s62_31, s62_32, m62_33, s62_36, s62_37, s62_41, m62_42, s62_45, m62_46, m62_49, s62_52, s62_54, m62_57, s62_60, m62_61, m62_64, s62_67, m62_68, s62_69, Int.toNat_natCast, Int.toNat_natCast, Nat.reduceAdd, Nat.reduceMul, Int.reduceToNat, Int.reduceAdd, Int.reduceLT, Int.reduceLE, Int.reduceEq, Int.reduceNeg, Int.reduceMul, Int.reduceSub, Nat.reduceSub, reduceIte, ite_true, ite_false, and_true, true_and, and_self, m62_2 h94, c62_9 h95, c1, c2, x62, and_false]
      · simp only [x62, Int.toNat_natCast, Int.toNat_natCast, Nat.reduceAdd, Nat.reduceMul, Int.reduceToNat, Int.reduceAdd, Int.reduceLT, Int.reduceLE, Int.reduceEq, Int.reduceNeg, Int.reduceMul, Int.reduceSub, Nat.reduceSub, reduceIte, ite_true, ite_false, and_true, true_and, and_self, c2, and_false]; exact hv
  · refine ⟨G, ?_, ?_, fr1_r G⟩
    · refine e62 (by omega) ?_
      simp (disch := omega) only [s62_0, s62_1, s62_5, s62_5b, s62_8, s62_12, s62_12b, s62_15, s62_16, s62_17, m62_18, m62_21, s62_24, m62_25, s62_26, s62_26b, s62_29, s62_31, s62_32, m62_33, s62_36, s62_37, s62_41, m62_42, s62_45, m62_46, m62_49, s62_52, s62_54, m62_57, s62_60, m62_61, m62_64, s62_67, m62_68, s62_69, Int.toNat_natCast, Int.toNat_natCast, Nat.reduceAdd, Nat.reduceMul, Int.reduceToNat, Int.reduceAdd, Int.reduceLT, Int.reduceLE, Int.reduceEq, Int.reduceNeg, Int.reduceMul, Int.reduceSub, Nat.reduceSub, reduceIte, ite_true, ite_false, and_true, true_and, and_self, m62_2 h94, c1, x62, false_and]
    · simp only [x62, Int.toNat_natCast, Int.toNat_natCast, Nat.reduceAdd, Nat.reduceMul, Int.reduceToNat, Int.reduceAdd, Int.reduceLT, Int.reduceLE, Int.reduceEq, Int.reduceNeg, Int.reduceMul, Int.reduceSub, Nat.reduceSub, reduceIte, ite_true, ite_false, and_true, true_and, and_self, c1, false_and]; exact hv
def x63 (g : Int) (H : q_Gi) (n : Int) : Int × q_Gi := if 0 ≤ n ∧ n ≤ 60 then (if H 0 1 + n ≤ 9999 then (H 0 1 + n, daysS g n.toNat H) else (-3, H)) else (-2, H)
theorem sp63 {d u N L : Nat} {t g n : Int} {cl : List (Int × List Int)} {B : q_Bv} {G H : q_Gi} (hd : 8 ≤ d) (hv : hv1 G H) (ho : Hok H) (hu : G 1 8 = (u : Int)) (hU : upl B N u t g cl) (hn : -2147483648 ≤ n ∧ n ≤ 2147483647) : ∃ G', Sp d 63 [.ref 0, vI n] (hp N L B G) (some (vI (x63 g H n).1)) (hp N L B G') ∧ hv1 G' (x63 g H n).2 ∧ fr1 G G' := by
  have hv6 := hv.2.1
  have h98 := sp98 (d := d - 1) (z := n) (m := 60) (X := hp N L B G) (by omega) hn (by omega)
  have hc := ho.2.2.2.2.2.2.1
  by_cases c1 : 0 ≤ n ∧ n ≤ 60
  · obtain ⟨k, rfl⟩ : ∃ k : Nat, n = (k : Int) := ⟨n.toNat, by omega⟩
    by_cases c2 : H 0 1 + (k : Int) ≤ 9999
    · obtain ⟨G1, h15, w15, o15, f15⟩ := sp15_1 (d := d - 1) (L := L) (n := k) (by omega) (by omega) hv ho (by omega) hu hU
      have w6 : G1 1 6 = H 0 1 + (k : Int) := by rw [w15.2.1, daysS_day]
      have c3 : ¬ (9999 < H 0 1 + (k : Int)) := by omega
      refine ⟨G1, ?_, ?_, f15⟩
      · refine e63 (by omega) ?_
        simp (disch := omega) only [s63_0, s63_1, s63_6, s63_6b, s63_9, s63_11, s63_12, m63_13, m63_16, s63_19, s63_20, s63_21, s63_24, s63_27, s63_29, s63_30, m63_31, s63_34, s63_38, m63_39, m63_42, s63_45, Int.toNat_natCast, Int.toNat_natCast, Nat.reduceAdd, Nat.reduceMul, Int.reduceToNat, Int.reduceAdd, Int.reduceLT, Int.reduceLE, Int.reduceEq, Int.reduceNeg, Int.reduceMul, Int.reduceSub, Nat.reduceSub, reduceIte, ite_true, ite_false, and_true, true_and, and_self, c63_3 h98, c1, hv6, c2, c3, x63, m63_35 h15, w6]
      · simp only [x63, Int.toNat_natCast, Int.toNat_natCast, Nat.reduceAdd, Nat.reduceMul, Int.reduceToNat, Int.reduceAdd, Int.reduceLT, Int.reduceLE, Int.reduceEq, Int.reduceNeg, Int.reduceMul, Int.reduceSub, Nat.reduceSub, reduceIte, ite_true, ite_false, and_true, true_and, and_self, c1, c2]; exact w15
    · have c3 : 9999 < H 0 1 + (k : Int) := by omega
      refine ⟨G, ?_, ?_, fr1_r G⟩
      · refine e63 (by omega) ?_
        simp (disch := omega) only [s63_0, s63_1, s63_6, s63_6b, s63_9, s63_11, s63_12, m63_13, m63_16, s63_19, s63_20, s63_21, s63_24, s63_27, s63_29, s63_30, m63_31, s63_34, s63_38, m63_39, m63_42, s63_45, Int.toNat_natCast, Int.toNat_natCast, Nat.reduceAdd, Nat.reduceMul, Int.reduceToNat, Int.reduceAdd, Int.reduceLT, Int.reduceLE, Int.reduceEq, Int.reduceNeg, Int.reduceMul, Int.reduceSub, Nat.reduceSub, reduceIte, ite_true, ite_false, and_true, true_and, and_self, c63_3 h98, c1, hv6, c2, c3, x63]
      · simp only [x63, Int.toNat_natCast, Int.toNat_natCast, Nat.reduceAdd, Nat.reduceMul, Int.reduceToNat, Int.reduceAdd, Int.reduceLT, Int.reduceLE, Int.reduceEq, Int.reduceNeg, Int.reduceMul, Int.reduceSub, Nat.reduceSub, reduceIte, ite_true, ite_false, and_true, true_and, and_self, c1, c2]; exact hv
  · refine ⟨G, ?_, ?_, fr1_r G⟩
    · refine e63 (by omega) ?_
      simp (disch := omega) only [s63_0, s63_1, s63_6, s63_6b, s63_9, s63_11, s63_12, m63_13, m63_16, s63_19, s63_20, s63_21, s63_24, s63_27, s63_29, s63_30, m63_31, s63_34, s63_38, m63_39, m63_42, s63_45, Int.toNat_natCast, Int.toNat_natCast, Nat.reduceAdd, Nat.reduceMul, Int.reduceToNat, Int.reduceAdd, Int.reduceLT, Int.reduceLE, Int.reduceEq, Int.reduceNeg, Int.reduceMul, Int.reduceSub, Nat.reduceSub, reduceIte, ite_true, ite_false, and_true, true_and, and_self, c63_3 h98, c1, x63]
    · simp only [x63, Int.toNat_natCast, Int.toNat_natCast, Nat.reduceAdd, Nat.reduceMul, Int.reduceToNat, Int.reduceAdd, Int.reduceLT, Int.reduceLE, Int.reduceEq, Int.reduceNeg, Int.reduceMul, Int.reduceSub, Nat.reduceSub, reduceIte, ite_true, ite_false, and_true, true_and, and_self, c1]; exact hv
def x64 (t : Int) (H : q_Gi) (b : Int) : Int × q_Gi := if 0 ≤ b ∧ b < H 0 0 then (bI (tunS t H b.toNat = true), strokeS H) else (-1, H)
theorem sp64 {d u N L : Nat} {t g b : Int} {cl : List (Int × List Int)} {B : q_Bv} {G H : q_Gi} (hd : 8 ≤ d) (hv : hv1 G H) (ho : Hok H) (hu : G 1 8 = (u : Int)) (hU : upl B N u t g cl) (hb : -2147483648 ≤ b ∧ b ≤ 2147483647) : ∃ G', Sp d 64 [.ref 0, vI b] (hp N L B G) (some (vI (x64 t H b).1)) (hp N L B G') ∧ hv1 G' (x64 t H b).2 ∧ fr1 G G' := by
  have hv0 := hv.1
  have h94 := sp94 (d := d - 1) (N := N) (L := L) (B := B) (G := G) (by omega) hb (by rw [hv0]; exact ho.1)
  rw [hv0] at h94
  have hc := ho.1
  by_cases c1 : 0 ≤ b ∧ b < H 0 0
  · obtain ⟨k, rfl⟩ : ∃ k : Nat, b = (k : Int) := ⟨b.toNat, by omega⟩
    obtain ⟨G1, h16, w16, f16⟩ := sp16_1 (d := d - 1) (L := L) (b := k) (by omega) (by omega) hv ho hu hU
    refine ⟨G1, ?_, ?_, f16⟩
    · refine e64 (by omega) ?_
      simp (disch := omega) only [s64_0, s64_1, s64_5, s64_5b, s64_8, s64_9, s64_10, m64_11, s64_14, s64_18, s64_18b, s64_21, s64_22, s64_25, s64_26, Int.toNat_natCast, Int.toNat_natCast, Nat.reduceAdd, Nat.reduceMul, Int.reduceToNat, Int.reduceAdd, Int.reduceLT, Int.reduceLE, Int.reduceEq, Int.reduceNeg, Int.reduceMul, Int.reduceSub, Nat.reduceSub, reduceIte, ite_true, ite_false, and_true, true_and, and_self, m64_2 h94, c1, x64, m64_15 h16]
      split <;> rename_i hc
      · rw [bI_t hc]
      · rw [bI_f hc]
    · simp only [x64, Int.toNat_natCast, Int.toNat_natCast, Nat.reduceAdd, Nat.reduceMul, Int.reduceToNat, Int.reduceAdd, Int.reduceLT, Int.reduceLE, Int.reduceEq, Int.reduceNeg, Int.reduceMul, Int.reduceSub, Nat.reduceSub, reduceIte, ite_true, ite_false, and_true, true_and, and_self, c1]; exact w16
  · refine ⟨G, ?_, ?_, fr1_r G⟩
    · refine e64 (by omega) ?_
      simp (disch := omega) only [s64_0, s64_1, s64_5, s64_5b, s64_8, s64_9, s64_10, m64_11, s64_14, s64_18, s64_18b, s64_21, s64_22, s64_25, s64_26, Int.toNat_natCast, Int.toNat_natCast, Nat.reduceAdd, Nat.reduceMul, Int.reduceToNat, Int.reduceAdd, Int.reduceLT, Int.reduceLE, Int.reduceEq, Int.reduceNeg, Int.reduceMul, Int.reduceSub, Nat.reduceSub, reduceIte, ite_true, ite_false, and_true, true_and, and_self, m64_2 h94, c1, x64]
    · simp only [x64, Int.toNat_natCast, Int.toNat_natCast, Nat.reduceAdd, Nat.reduceMul, Int.reduceToNat, Int.reduceAdd, Int.reduceLT, Int.reduceLE, Int.reduceEq, Int.reduceNeg, Int.reduceMul, Int.reduceSub, Nat.reduceSub, reduceIte, ite_true, ite_false, and_true, true_and, and_self, c1]; exact hv
def r61 (t g : Int) (H : q_Gi) (w : Int) : Int := if w = 0 then H 0 1 else if w = 1 then H 0 2 else if w = 2 then t else if w = 3 then g else if w = 4 then tbS (tunS t H) (H 0 0).toNat else if 10 ≤ w ∧ w < 14 then H 5 (w - 10).toNat else -1
theorem sp61 {d u N L : Nat} {t g w : Int} {cl : List (Int × List Int)} {B : q_Bv} {G H : q_Gi} (hd : 8 ≤ d) (hv : hv1 G H) (ho : Hok H) (hu : G 1 8 = (u : Int)) (hU : upl B N u t g cl) (hw : -2147483648 ≤ w ∧ w ≤ 2147483647) : Sp d 61 [.ref 0, vI w] (hp N L B G) (some (vI (r61 t g H w))) (hp N L B G) := by
  obtain ⟨n, hn⟩ : ∃ n : Nat, H 0 0 = (n : Int) := ⟨(H 0 0).toNat, by have := ho.1; omega⟩
  have h10 := sp10_1 (d := d - 1) (L := L) (by omega) hv ho hn hu hU
  obtain ⟨v0, v6, v7, v1, v2, v3, v4, v5⟩ := hv
  have hu1 := hU.1
  have hu2 : u < N + 129 := by have := hU.2.1; omega
  have hu3 := hU.2.2.1
  have hu4 := hU.2.2.2.1
  have hw' : w = 0 ∨ w = 1 ∨ w = 2 ∨ w = 3 ∨ w = 4 ∨ (¬ w = 0 ∧ ¬ w = 1 ∧ ¬ w = 2 ∧ ¬ w = 3 ∧ ¬ w = 4) := by omega
  refine e61 (by omega) ?_
  rcases hw' with rfl | rfl | rfl | rfl | rfl | ⟨n0, n1, n2, n3, n4⟩
  · simp (disch := omega) only [s61_0, s61_1, s61_36, m61_37, m61_40, s61_43, s61_44, m61_45, m61_48, s61_51, s61_52, m61_53, m61_56, m61_59, s61_62, s61_63, m61_64, m61_67, m61_70, s61_73, s61_74, m61_75, s61_81, s61_82, s61_83, s61_85, s61_88, s61_89, s61_91, s61_95, s61_95b, s61_98, m61_99, m61_102, s61_105, s61_106, s61_108, m61_109, s61_110, s61_113, s61_114, Int.toNat_natCast, Int.toNat_natCast, Nat.reduceAdd, Nat.reduceMul, Int.reduceToNat, Int.reduceAdd, Int.reduceLT, Int.reduceLE, Int.reduceEq, Int.reduceNeg, Int.reduceMul, Int.reduceSub, Nat.reduceSub, reduceIte, ite_true, ite_false, and_true, true_and, and_self, v6, r61]
  · simp (disch := omega) only [s61_0, s61_1, s61_36, m61_37, m61_40, s61_43, s61_44, m61_45, m61_48, s61_51, s61_52, m61_53, m61_56, m61_59, s61_62, s61_63, m61_64, m61_67, m61_70, s61_73, s61_74, m61_75, s61_81, s61_82, s61_83, s61_85, s61_88, s61_89, s61_91, s61_95, s61_95b, s61_98, m61_99, m61_102, s61_105, s61_106, s61_108, m61_109, s61_110, s61_113, s61_114, Int.toNat_natCast, Int.toNat_natCast, Nat.reduceAdd, Nat.reduceMul, Int.reduceToNat, Int.reduceAdd, Int.reduceLT, Int.reduceLE, Int.reduceEq, Int.reduceNeg, Int.reduceMul, Int.reduceSub, Nat.reduceSub, reduceIte, ite_true, ite_false, and_true, true_and, and_self, v7, r61]
  · simp (disch := first | omega | assumption) only [s61_0, s61_1, s61_36, m61_37, m61_40, s61_43, s61_44, m61_45, m61_48, s61_51, s61_52, m61_53, m61_56, m61_59, s61_62, s61_63, m61_64, m61_67, m61_70, s61_73, s61_74, m61_75, s61_81, s61_82, s61_83, s61_85, s61_88, s61_89, s61_91, s61_95, s61_95b, s61_98, m61_99, m61_102, s61_105, s61_106, s61_108, m61_109, s61_110, s61_113, s61_114, Int.toNat_natCast, Int.toNat_natCast, Nat.reduceAdd, Nat.reduceMul, Int.reduceToNat, Int.reduceAdd, Int.reduceLT, Int.reduceLE, Int.reduceEq, Int.reduceNeg, Int.reduceMul, Int.reduceSub, Nat.reduceSub, reduceIte, ite_true, ite_false, and_true, true_and, and_self, hu, hu3, r61]
  · simp (disch := first | omega | assumption) only [s61_0, s61_1, s61_36, m61_37, m61_40, s61_43, s61_44, m61_45, m61_48, s61_51, s61_52, m61_53, m61_56, m61_59, s61_62, s61_63, m61_64, m61_67, m61_70, s61_73, s61_74, m61_75, s61_81, s61_82, s61_83, s61_85, s61_88, s61_89, s61_91, s61_95, s61_95b, s61_98, m61_99, m61_102, s61_105, s61_106, s61_108, m61_109, s61_110, s61_113, s61_114, Int.toNat_natCast, Int.toNat_natCast, Nat.reduceAdd, Nat.reduceMul, Int.reduceToNat, Int.reduceAdd, Int.reduceLT, Int.reduceLE, Int.reduceEq, Int.reduceNeg, Int.reduceMul, Int.reduceSub, Nat.reduceSub, reduceIte, ite_true, ite_false, and_true, true_and, and_self, hu, hu4, r61]
  · simp (disch := omega) only [s61_0, s61_1, s61_36, m61_37, m61_40, s61_43, s61_44, m61_45, m61_48, s61_51, s61_52, m61_53, m61_56, m61_59, s61_62, s61_63, m61_64, m61_67, m61_70, s61_73, s61_74, m61_75, s61_81, s61_82, s61_83, s61_85, s61_88, s61_89, s61_91, s61_95, s61_95b, s61_98, m61_99, m61_102, s61_105, s61_106, s61_108, m61_109, s61_110, s61_113, s61_114, Int.toNat_natCast, Int.toNat_natCast, Nat.reduceAdd, Nat.reduceMul, Int.reduceToNat, Int.reduceAdd, Int.reduceLT, Int.reduceLE, Int.reduceEq, Int.reduceNeg, Int.reduceMul, Int.reduceSub, Nat.reduceSub, reduceIte, ite_true, ite_false, and_true, true_and, and_self, m61_78 h10, r61, hn]
  · by_cases hw10 : w < 10
    · have hW : ¬ (10 ≤ w ∧ w < 14) := by omega
      simp (disch := omega) only [s61_0, s61_1, s61_36, m61_37, m61_40, s61_43, s61_44, m61_45, m61_48, s61_51, s61_52, m61_53, m61_56, m61_59, s61_62, s61_63, m61_64, m61_67, m61_70, s61_73, s61_74, m61_75, s61_81, s61_82, s61_83, s61_85, s61_88, s61_89, s61_91, s61_95, s61_95b, s61_98, m61_99, m61_102, s61_105, s61_106, s61_108, m61_109, s61_110, s61_113, s61_114, Int.toNat_natCast, Int.toNat_natCast, Nat.reduceAdd, Nat.reduceMul, Int.reduceToNat, Int.reduceAdd, Int.reduceLT, Int.reduceLE, Int.reduceEq, Int.reduceNeg, Int.reduceMul, Int.reduceSub, Nat.reduceSub, reduceIte, ite_true, ite_false, and_true, true_and, and_self, n0, n1, n2, n3, n4, hw10, r61, hW]
    · have h95 := sp95 (d := d - 1) (z := w - 10) (X := hp N L B G) (by omega) (by omega)
      by_cases hW : 10 ≤ w ∧ w < 14
      · have hw0 : (0 ≤ w - 10 ∧ w - 10 < 4) := by omega
        simp (disch := omega) only [s61_0, s61_1, s61_36, m61_37, m61_40, s61_43, s61_44, m61_45, m61_48, s61_51, s61_52, m61_53, m61_56, m61_59, s61_62, s61_63, m61_64, m61_67, m61_70, s61_73, s61_74, m61_75, s61_81, s61_82, s61_83, s61_85, s61_88, s61_89, s61_91, s61_95, s61_95b, s61_98, m61_99, m61_102, s61_105, s61_106, s61_108, m61_109, s61_110, s61_113, s61_114, Int.toNat_natCast, Int.toNat_natCast, Nat.reduceAdd, Nat.reduceMul, Int.reduceToNat, Int.reduceAdd, Int.reduceLT, Int.reduceLE, Int.reduceEq, Int.reduceNeg, Int.reduceMul, Int.reduceSub, Nat.reduceSub, reduceIte, ite_true, ite_false, and_true, true_and, and_self, n0, n1, n2, n3, n4, hw10, c61_92 h95, hw0, r61, hW, v5]
      · have hw0 : ¬ (0 ≤ w - 10 ∧ w - 10 < 4) := by omega
        simp (disch := omega) only [s61_0, s61_1, s61_36, m61_37, m61_40, s61_43, s61_44, m61_45, m61_48, s61_51, s61_52, m61_53, m61_56, m61_59, s61_62, s61_63, m61_64, m61_67, m61_70, s61_73, s61_74, m61_75, s61_81, s61_82, s61_83, s61_85, s61_88, s61_89, s61_91, s61_95, s61_95b, s61_98, m61_99, m61_102, s61_105, s61_106, s61_108, m61_109, s61_110, s61_113, s61_114, Int.toNat_natCast, Int.toNat_natCast, Nat.reduceAdd, Nat.reduceMul, Int.reduceToNat, Int.reduceAdd, Int.reduceLT, Int.reduceLE, Int.reduceEq, Int.reduceNeg, Int.reduceMul, Int.reduceSub, Nat.reduceSub, reduceIte, ite_true, ite_false, and_true, true_and, and_self, n0, n1, n2, n3, n4, hw10, c61_92 h95, hw0, r61, hW]
