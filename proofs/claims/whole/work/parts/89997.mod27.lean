/-! of and dear, with all that stays -/
theorem sp149s {d N L : Nat} {the b w : Int} {rc : List (Int × Int × List Int)} {B : q_Bv} {G H : q_Gi} (hd : 6 ≤ d) (h : ms G H the rc) (hb : -2147483648 ≤ b ∧ b ≤ 2147483647) (hw : -2147483648 ≤ w ∧ w ≤ 2147483647) : ∃ G', Sp d 149 [.ref 82, vI b, vI w] (hp N L B G) (some (vI (r55 (lsR 2 rc 9) (clR rc) H b w))) (hp N L B G') ∧ mv G' H ∧ ∀ a, a ≠ 97 → G' a = G a := by
  obtain ⟨hv, ho, h9, hm⟩ := h
  have v0 := hv.1
  have hb6 := ho.1
  have a1 := sp113 (d := d - 1) (z := b) (N := N) (L := L) (B := B) (G := G) (by omega) hb (by rw [v0]; exact hb6)
  rw [v0] at a1
  have a2 := sp109 (d := d - 1) (z := w) (lo := 10) (hi := 13) (X := hp N L B G) (by omega) hw (by omega) (by omega)
  by_cases hB : 0 ≤ b ∧ b < H 0 0
  · rw [bI_t hB] at a1
    obtain ⟨n, rfl⟩ : ∃ n : Nat, b = (n : Int) := ⟨b.toNat, by omega⟩
    have hn6 : n < 6 := by omega
    by_cases c : 10 ≤ w ∧ w ≤ 13
    · rw [bI_t c] at a2
      obtain ⟨e, rfl⟩ : ∃ e : Nat, w = (e : Int) + 10 := ⟨(w - 10).toNat, by omega⟩
      obtain ⟨G1, h144, f1⟩ := sp144 (d := d - 1) (f := e) (N := N) (L := L) (B := B) (by omega) hv ho hn6 (by omega) h9 hm
      have er : r55 (lsR 2 rc 9) (clR rc) H n ((e : Int) + 10) = fillS (clR rc) H n e (H 3 n) := by
        unfold r55
        rw [if_pos hB, if_neg (by omega), if_neg (by omega), if_neg (by omega), if_neg (by omega), if_neg (by omega), if_neg (by omega), if_neg (by omega), if_pos (by omega), Int.toNat_natCast, show ((e : Int) + 10 - 10).toNat = e by omega]
      rw [er]
      have e10 : (e : Int) + 10 - 10 = (e : Int) := by omega
      refine ⟨G1, ?_, mv_f hv (fun a _ _ => f1 a (by omega)), f1⟩
      refine e149 (by omega) ?_
      simp (disch := omega) only [s149_0, s149_1, s149_5, s149_5b, s149_8, s149_9, s149_10, s149_11, s149_12, s149_14, s149_19, s149_19b, s149_22, s149_23, s149_24, s149_25, s149_27, s149_31, Int.toNat_natCast, Int.toNat_natCast, Nat.reduceAdd, Nat.reduceMul, Int.reduceToNat, Int.reduceAdd, Int.reduceLT, Int.reduceLE, Int.reduceEq, Int.reduceNeg, Int.reduceMul, Int.reduceSub, Nat.reduceSub, reduceIte, ite_true, ite_false, and_true, true_and, and_self, m149_2 a1, m149_16 a2, e10, m149_28 h144]
    · rw [bI_f c] at a2
      refine ⟨G, ?_, hv, fun _ _ => rfl⟩
      have h145 := sp145 (d := d - 1) (N := N) (L := L) (B := B) (by omega) hv ho hn6
      have h146 := sp146 (d := d - 1) (N := N) (L := L) (B := B) (by omega) hv ho hn6
      have h147 := sp147 (d := d - 1) (N := N) (L := L) (B := B) (by omega) hv ho hn6
      have h148 := sp148 (d := d - 1) (N := N) (L := L) (B := B) (by omega) hv ho h9 hm hn6
      obtain ⟨v0, v1, v2, vk, vv, vf, vr, vs⟩ := hv
      have er : ∀ x : Int, ¬ (10 ≤ x ∧ x < 14) → r55 (lsR 2 rc 9) (clR rc) H n x = if x = 0 then H 1 n else if x = 1 then H 2 n else if x = 2 then H 3 n else if x = 3 then hungS H n else if x = 4 then noteS (H 1 n) (H 2 n) else if x = 5 then offS (H 1 n) (H 2 n) (H 3 n) else if x = 6 then bI (tunS (lsR 2 rc 9) H n = true) else -1 := by
        intro x hx
        unfold r55
        rw [if_pos hB, if_neg hx, Int.toNat_natCast]
      rw [er w (by omega)]
      have hw' : w = 0 ∨ w = 1 ∨ w = 2 ∨ w = 3 ∨ w = 4 ∨ w = 5 ∨ w = 6 ∨ (¬ w = 0 ∧ ¬ w = 1 ∧ ¬ w = 2 ∧ ¬ w = 3 ∧ ¬ w = 4 ∧ ¬ w = 5 ∧ ¬ w = 6) := by omega
      refine e149 (by omega) ?_
      rcases hw' with rfl | rfl | rfl | rfl | rfl | rfl | rfl | ⟨n0, n1, n2, n3, n4, n5, n6⟩
      · simp (disch := omega) only [s149_0, s149_1, s149_5, s149_5b, s149_8, s149_9, s149_10, s149_11, s149_12, s149_14, s149_19, s149_19b, s149_22, s149_23, s149_24, s149_25, s149_27, s149_31, s149_32, s149_33, s149_76, m149_77, s149_80, m149_81, s149_82, s149_83, m149_84, s149_87, m149_88, s149_89, s149_90, m149_91, s149_94, m149_95, s149_96, s149_97, s149_98, s149_102, s149_103, s149_104, s149_108, s149_109, s149_110, s149_114, s149_115, s149_116, s149_120, s149_120b, s149_123, s149_124, s149_127, s149_128, s149_129, s149_130, Int.toNat_natCast, Int.toNat_natCast, Nat.reduceAdd, Nat.reduceMul, Int.reduceToNat, Int.reduceAdd, Int.reduceLT, Int.reduceLE, Int.reduceEq, Int.reduceNeg, Int.reduceMul, Int.reduceSub, Nat.reduceSub, reduceIte, ite_true, ite_false, and_true, true_and, and_self, m149_2 a1, m149_16 a2, vk n hn6]
      · simp (disch := omega) only [s149_0, s149_1, s149_5, s149_5b, s149_8, s149_9, s149_10, s149_11, s149_12, s149_14, s149_19, s149_19b, s149_22, s149_23, s149_24, s149_25, s149_27, s149_31, s149_32, s149_33, s149_76, m149_77, s149_80, m149_81, s149_82, s149_83, m149_84, s149_87, m149_88, s149_89, s149_90, m149_91, s149_94, m149_95, s149_96, s149_97, s149_98, s149_102, s149_103, s149_104, s149_108, s149_109, s149_110, s149_114, s149_115, s149_116, s149_120, s149_120b, s149_123, s149_124, s149_127, s149_128, s149_129, s149_130, Int.toNat_natCast, Int.toNat_natCast, Nat.reduceAdd, Nat.reduceMul, Int.reduceToNat, Int.reduceAdd, Int.reduceLT, Int.reduceLE, Int.reduceEq, Int.reduceNeg, Int.reduceMul, Int.reduceSub, Nat.reduceSub, reduceIte, ite_true, ite_false, and_true, true_and, and_self, m149_2 a1, m149_16 a2, vv n hn6]
      · simp (disch := omega) only [s149_0, s149_1, s149_5, s149_5b, s149_8, s149_9, s149_10, s149_11, s149_12, s149_14, s149_19, s149_19b, s149_22, s149_23, s149_24, s149_25, s149_27, s149_31, s149_32, s149_33, s149_76, m149_77, s149_80, m149_81, s149_82, s149_83, m149_84, s149_87, m149_88, s149_89, s149_90, m149_91, s149_94, m149_95, s149_96, s149_97, s149_98, s149_102, s149_103, s149_104, s149_108, s149_109, s149_110, s149_114, s149_115, s149_116, s149_120, s149_120b, s149_123, s149_124, s149_127, s149_128, s149_129, s149_130, Int.toNat_natCast, Int.toNat_natCast, Nat.reduceAdd, Nat.reduceMul, Int.reduceToNat, Int.reduceAdd, Int.reduceLT, Int.reduceLE, Int.reduceEq, Int.reduceNeg, Int.reduceMul, Int.reduceSub, Nat.reduceSub, reduceIte, ite_true, ite_false, and_true, true_and, and_self, m149_2 a1, m149_16 a2, vf n hn6]
      · simp (disch := omega) only [s149_0, s149_1, s149_5, s149_5b, s149_8, s149_9, s149_10, s149_11, s149_12, s149_14, s149_19, s149_19b, s149_22, s149_23, s149_24, s149_25, s149_27, s149_31, s149_32, s149_33, s149_76, m149_77, s149_80, m149_81, s149_82, s149_83, m149_84, s149_87, m149_88, s149_89, s149_90, m149_91, s149_94, m149_95, s149_96, s149_97, s149_98, s149_102, s149_103, s149_104, s149_108, s149_109, s149_110, s149_114, s149_115, s149_116, s149_120, s149_120b, s149_123, s149_124, s149_127, s149_128, s149_129, s149_130, Int.toNat_natCast, Int.toNat_natCast, Nat.reduceAdd, Nat.reduceMul, Int.reduceToNat, Int.reduceAdd, Int.reduceLT, Int.reduceLE, Int.reduceEq, Int.reduceNeg, Int.reduceMul, Int.reduceSub, Nat.reduceSub, reduceIte, ite_true, ite_false, and_true, true_and, and_self, m149_2 a1, m149_16 a2, m149_99 h145]
      · simp (disch := omega) only [s149_0, s149_1, s149_5, s149_5b, s149_8, s149_9, s149_10, s149_11, s149_12, s149_14, s149_19, s149_19b, s149_22, s149_23, s149_24, s149_25, s149_27, s149_31, s149_32, s149_33, s149_76, m149_77, s149_80, m149_81, s149_82, s149_83, m149_84, s149_87, m149_88, s149_89, s149_90, m149_91, s149_94, m149_95, s149_96, s149_97, s149_98, s149_102, s149_103, s149_104, s149_108, s149_109, s149_110, s149_114, s149_115, s149_116, s149_120, s149_120b, s149_123, s149_124, s149_127, s149_128, s149_129, s149_130, Int.toNat_natCast, Int.toNat_natCast, Nat.reduceAdd, Nat.reduceMul, Int.reduceToNat, Int.reduceAdd, Int.reduceLT, Int.reduceLE, Int.reduceEq, Int.reduceNeg, Int.reduceMul, Int.reduceSub, Nat.reduceSub, reduceIte, ite_true, ite_false, and_true, true_and, and_self, m149_2 a1, m149_16 a2, m149_105 h146]
      · simp (disch := omega) only [s149_0, s149_1, s149_5, s149_5b, s149_8, s149_9, s149_10, s149_11, s149_12, s149_14, s149_19, s149_19b, s149_22, s149_23, s149_24, s149_25, s149_27, s149_31, s149_32, s149_33, s149_76, m149_77, s149_80, m149_81, s149_82, s149_83, m149_84, s149_87, m149_88, s149_89, s149_90, m149_91, s149_94, m149_95, s149_96, s149_97, s149_98, s149_102, s149_103, s149_104, s149_108, s149_109, s149_110, s149_114, s149_115, s149_116, s149_120, s149_120b, s149_123, s149_124, s149_127, s149_128, s149_129, s149_130, Int.toNat_natCast, Int.toNat_natCast, Nat.reduceAdd, Nat.reduceMul, Int.reduceToNat, Int.reduceAdd, Int.reduceLT, Int.reduceLE, Int.reduceEq, Int.reduceNeg, Int.reduceMul, Int.reduceSub, Nat.reduceSub, reduceIte, ite_true, ite_false, and_true, true_and, and_self, m149_2 a1, m149_16 a2, m149_111 h147]
      · by_cases ct : tunS (lsR 2 rc 9) H n = true
        · rw [bI_t ct] at h148 ⊢
          simp (disch := omega) only [s149_0, s149_1, s149_5, s149_5b, s149_8, s149_9, s149_10, s149_11, s149_12, s149_14, s149_19, s149_19b, s149_22, s149_23, s149_24, s149_25, s149_27, s149_31, s149_32, s149_33, s149_76, m149_77, s149_80, m149_81, s149_82, s149_83, m149_84, s149_87, m149_88, s149_89, s149_90, m149_91, s149_94, m149_95, s149_96, s149_97, s149_98, s149_102, s149_103, s149_104, s149_108, s149_109, s149_110, s149_114, s149_115, s149_116, s149_120, s149_120b, s149_123, s149_124, s149_127, s149_128, s149_129, s149_130, Int.toNat_natCast, Int.toNat_natCast, Nat.reduceAdd, Nat.reduceMul, Int.reduceToNat, Int.reduceAdd, Int.reduceLT, Int.reduceLE, Int.reduceEq, Int.reduceNeg, Int.reduceMul, Int.reduceSub, Nat.reduceSub, reduceIte, ite_true, ite_false, and_true, true_and, and_self, m149_2 a1, m149_16 a2, m149_117 h148]
        · rw [bI_f ct] at h148 ⊢
          simp (disch := omega) only [s149_0, s149_1, s149_5, s149_5b, s149_8, s149_9, s149_10, s149_11, s149_12, s149_14, s149_19, s149_19b, s149_22, s149_23, s149_24, s149_25, s149_27, s149_31, s149_32, s149_33, s149_76, m149_77, s149_80, m149_81, s149_82, s149_83, m149_84, s149_87, m149_88, s149_89, s149_90, m149_91, s149_94, m149_95, s149_96, s149_97, s149_98, s149_102, s149_103, s149_104, s149_108, s149_109, s149_110, s149_114, s149_115, s149_116, s149_120, s149_120b, s149_123, s149_124, s149_127, s149_128, s149_129, s149_130, Int.toNat_natCast, Int.toNat_natCast, Nat.reduceAdd, Nat.reduceMul, Int.reduceToNat, Int.reduceAdd, Int.reduceLT, Int.reduceLE, Int.reduceEq, Int.reduceNeg, Int.reduceMul, Int.reduceSub, Nat.reduceSub, reduceIte, ite_true, ite_false, and_true, true_and, and_self, m149_2 a1, m149_16 a2, m149_117 h148]
      · simp (disch := omega) only [s149_0, s149_1, s149_5, s149_5b, s149_8, s149_9, s149_10, s149_11, s149_12, s149_14, s149_19, s149_19b, s149_22, s149_23, s149_24, s149_25, s149_27, s149_31, s149_32, s149_33, s149_76, m149_77, s149_80, m149_81, s149_82, s149_83, m149_84, s149_87, m149_88, s149_89, s149_90, m149_91, s149_94, m149_95, s149_96, s149_97, s149_98, s149_102, s149_103, s149_104, s149_108, s149_109, s149_110, s149_114, s149_115, s149_116, s149_120, s149_120b, s149_123, s149_124, s149_127, s149_128, s149_129, s149_130, Int.toNat_natCast, Int.toNat_natCast, Nat.reduceAdd, Nat.reduceMul, Int.reduceToNat, Int.reduceAdd, Int.reduceLT, Int.reduceLE, Int.reduceEq, Int.reduceNeg, Int.reduceMul, Int.reduceSub, Nat.reduceSub, reduceIte, ite_true, ite_false, and_true, true_and, and_self, m149_2 a1, m149_16 a2, n0, n1, n2, n3, n4, n5, n6]
  · rw [bI_f hB] at a1
    refine ⟨G, ?_, hv, fun _ _ => rfl⟩
    have er : r55 (lsR 2 rc 9) (clR rc) H b w = -1 := by unfold r55; rw [if_neg hB]
    rw [er]
    refine e149 (by omega) ?_
    simp (disch := omega) only [s149_0, s149_1, s149_5, s149_5b, s149_8, s149_9, Int.toNat_natCast, Int.toNat_natCast, Nat.reduceAdd, Nat.reduceMul, Int.reduceToNat, Int.reduceAdd, Int.reduceLT, Int.reduceLE, Int.reduceEq, Int.reduceNeg, Int.reduceMul, Int.reduceSub, Nat.reduceSub, reduceIte, ite_true, ite_false, and_true, true_and, and_self, m149_2 a1]
theorem sp169s {d N L : Nat} {the b : Int} {rc : List (Int × Int × List Int)} {B : q_Bv} {G H : q_Gi} (hd : 8 ≤ d) (h : ms G H the rc) (hb : -2147483648 ≤ b ∧ b ≤ 2147483647) : ∃ G', Sp d 169 [.ref 82, vI b] (hp N L B G) (some (vI (r70 (clR rc) H b))) (hp N L B G') ∧ mv G' H ∧ ∀ a, a ≠ 97 → G' a = G a := by
  have h0 := h
  obtain ⟨hv, ho, h9, hm⟩ := h
  have v0 := hv.1
  have hb6 := ho.1
  have a1 := sp113 (d := d - 1) (z := b) (N := N) (L := L) (B := B) (G := G) (by omega) hb (by rw [v0]; exact ho.1)
  rw [v0] at a1
  unfold r70
  by_cases cb : 0 ≤ b ∧ b < H 0 0
  · rw [if_pos cb]
    rw [bI_t cb] at a1
    obtain ⟨n, rfl⟩ : ∃ n : Nat, b = (n : Int) := ⟨b.toNat, by omega⟩
    rw [Int.toNat_natCast]
    have r0 := fillS_r (f := H 3 n) (e := 0) (clR_k hm) ho (show n < 6 by omega) (by omega)
    have er : dearS (clR rc) H n 4 0 0 (-1) = dearS (clR rc) H n 3 1 ((0 : Nat) : Int) (fillS (clR rc) H n 0 (H 3 n)) := by
      rw [show dearS (clR rc) H n 4 0 0 (-1) = if -1 < fillS (clR rc) H n 0 (H 3 n) then dearS (clR rc) H n 3 1 ((0 : Nat) : Int) (fillS (clR rc) H n 0 (H 3 n)) else dearS (clR rc) H n 3 1 0 (-1) from rfl, if_pos (by omega)]
    rw [er]
    obtain ⟨r1, X1, hS, G', hr, hX, q⟩ := E169 (d := d) (X := hp N L B G) (z1 := (n : Int)) (Q := fun r1 X1 => ∃ G', r1 = some (vI (dearS (clR rc) H n 3 1 ((0 : Nat) : Int) (fillS (clR rc) H n 0 (H 3 n)))) ∧ X1 = hp N L B G' ∧ mv G' H ∧ ∀ a, a ≠ 97 → G' a = G a) (by omega) (by
      simp (disch := omega) only [s169_0, s169_1, s169_5, s169_5b, s169_8, s169_9, s169_10, s169_11, s169_12, s169_13, Int.toNat_natCast, Int.toNat_natCast, Nat.reduceAdd, Nat.reduceMul, Int.reduceToNat, Int.reduceAdd, Int.reduceLT, Int.reduceLE, Int.reduceEq, Int.reduceNeg, Int.reduceMul, Int.reduceSub, Nat.reduceSub, reduceIte, ite_true, ite_false, and_true, true_and, and_self, m169_2 a1]
      exact lp169 (d := d - 1) (by omega) (by omega) 3 1 0 G rfl (by omega) h0 (fun G' q1 q2 => ⟨G', rfl, rfl, q1, q2⟩))
    exact ⟨G', by rw [hr, hX] at hS; exact hS, q⟩
  · rw [if_neg cb]
    rw [bI_f cb] at a1
    refine ⟨G, ?_, hv, fun _ _ => rfl⟩
    refine e169 (by omega) ?_
    simp (disch := omega) only [s169_0, s169_1, s169_5, s169_5b, s169_8, s169_9, s169_10, s169_11, s169_12, s169_13, s169_14, s169_15, s169_16, s169_19, s169_20, s169_21, s169_25, s169_26, s169_27, s169_31, s169_34, s169_35, s169_36, s169_39, s169_42, s169_43, Int.toNat_natCast, Int.toNat_natCast, Nat.reduceAdd, Nat.reduceMul, Int.reduceToNat, Int.reduceAdd, Int.reduceLT, Int.reduceLE, Int.reduceEq, Int.reduceNeg, Int.reduceMul, Int.reduceSub, Nat.reduceSub, reduceIte, ite_true, ite_false, and_true, true_and, and_self, m169_2 a1]
