/-! the class's calls: peal, see, feeding, book, count -/
def r72 (H P : q_Gi) (b : Int) : Int × q_Gi := if b = -1 then (0, setS P 0 0 0) else if 0 ≤ b ∧ b < H 0 0 then xadd0 P b 0 0 else (-1, P)
theorem sp72 {d N L : Nat} {b : Int} {B : q_Bv} {G H P : q_Gi} (hd : 3 ≤ d) (hv : hv1 G H) (ho : Hok H) (hP : pv G P) (hPo : Pok P) (hb : -2147483648 ≤ b ∧ b ≤ 2147483647) : ∃ G', Sp d 72 [.ref 0, vI b] (hp N L B G) (some (vI (r72 H P b).1)) (hp N L B G') ∧ pv G' (r72 H P b).2 ∧ ∀ a, (a < 23 ∨ 38 < a) → G' a = G a := by
  have hv0 := hv.1
  have h94 := sp94 (d := d - 1) (N := N) (L := L) (B := B) (G := G) (by omega) hb (by rw [hv0]; exact ho.1)
  rw [hv0] at h94
  by_cases c0 : b = -1
  · refine ⟨ug G 23 1 0, ?_, ?_, fun a ha => ug_ne (by omega)⟩
    · refine e72 (by omega) ?_
      simp (disch := omega) only [s72_0, s72_1, s72_2, s72_2b, s72_5, m72_6, m72_9, s72_15, s72_16, s72_17, s72_21, s72_21b, s72_24, s72_25, s72_26, m72_27, m72_30, s72_33, s72_34, s72_35, s72_39, Int.toNat_natCast, Int.toNat_natCast, Nat.reduceAdd, Nat.reduceMul, Int.reduceToNat, Int.reduceAdd, Int.reduceLT, Int.reduceLE, Int.reduceEq, Int.reduceNeg, Int.reduceMul, Int.reduceSub, Nat.reduceSub, reduceIte, ite_true, ite_false, and_true, true_and, and_self, c0, r72, m72_12 (sp36_0 (d := d - 1) (N := N) (L := L) (B := B) (G := G) (by omega))]
    · simp only [r72, if_pos c0]; exact pv_wipe0 hP
  · by_cases c1 : 0 ≤ b ∧ b < H 0 0
    · obtain ⟨G1, h35, w35, f35⟩ := sp35_0 (d := d - 1) (N := N) (L := L) (B := B) (b := b) (x := 0) (y := 0) (by omega) hP hPo
      refine ⟨G1, ?_, ?_, fun a ha => f35 a (by omega)⟩
      · refine e72 (by omega) ?_
        simp (disch := omega) only [s72_0, s72_1, s72_2, s72_2b, s72_5, m72_6, m72_9, s72_15, s72_16, s72_17, s72_21, s72_21b, s72_24, s72_25, s72_26, m72_27, m72_30, s72_33, s72_34, s72_35, s72_39, Int.toNat_natCast, Int.toNat_natCast, Nat.reduceAdd, Nat.reduceMul, Int.reduceToNat, Int.reduceAdd, Int.reduceLT, Int.reduceLE, Int.reduceEq, Int.reduceNeg, Int.reduceMul, Int.reduceSub, Nat.reduceSub, reduceIte, ite_true, ite_false, and_true, true_and, and_self, c0, c1, r72, m72_18 h94, m72_36 h35]
      · simp only [r72, if_neg c0, if_pos c1]; exact w35
    · refine ⟨G, ?_, ?_, fun _ _ => rfl⟩
      · refine e72 (by omega) ?_
        simp (disch := omega) only [s72_0, s72_1, s72_2, s72_2b, s72_5, m72_6, m72_9, s72_15, s72_16, s72_17, s72_21, s72_21b, s72_24, s72_25, s72_26, m72_27, m72_30, s72_33, s72_34, s72_35, s72_39, Int.toNat_natCast, Int.toNat_natCast, Nat.reduceAdd, Nat.reduceMul, Int.reduceToNat, Int.reduceAdd, Int.reduceLT, Int.reduceLE, Int.reduceEq, Int.reduceNeg, Int.reduceMul, Int.reduceSub, Nat.reduceSub, reduceIte, ite_true, ite_false, and_true, true_and, and_self, c0, c1, r72, m72_18 h94]
      · simp only [r72, if_neg c0, if_neg c1]; exact hP
def r75 (H P : q_Gi) (b f n : Int) : Int × q_Gi := if b = -1 then (0, setS P 0 1 0) else if 0 ≤ b ∧ b < H 0 0 then (if (0 ≤ f ∧ f ≤ 99) ∧ (0 ≤ n ∧ n ≤ 30) then xadd1 P b f n else (-2, P)) else (-1, P)
theorem sp75 {d N L : Nat} {b f n : Int} {B : q_Bv} {G H P : q_Gi} (hd : 3 ≤ d) (hv : hv1 G H) (ho : Hok H) (hP : pv G P) (hPo : Pok P) (hb : -2147483648 ≤ b ∧ b ≤ 2147483647) (hf : -2147483648 ≤ f ∧ f ≤ 2147483647) (hn : -2147483648 ≤ n ∧ n ≤ 2147483647) : ∃ G', Sp d 75 [.ref 0, vI b, vI f, vI n] (hp N L B G) (some (vI (r75 H P b f n).1)) (hp N L B G') ∧ pv G' (r75 H P b f n).2 ∧ ∀ a, (a < 23 ∨ 38 < a) → G' a = G a := by
  have hv0 := hv.1
  have h94 := sp94 (d := d - 1) (N := N) (L := L) (B := B) (G := G) (by omega) hb (by rw [hv0]; exact ho.1)
  rw [hv0] at h94
  have h981 := sp98 (d := d - 1) (z := f) (m := 99) (X := hp N L B G) (by omega) hf (by omega)
  have h982 := sp98 (d := d - 1) (z := n) (m := 30) (X := hp N L B G) (by omega) hn (by omega)
  by_cases c0 : b = -1
  · refine ⟨ug G 27 1 0, ?_, ?_, fun a ha => ug_ne (by omega)⟩
    · refine e75 (by omega) ?_
      simp (disch := omega) only [s75_0, s75_1, s75_2, s75_2b, s75_5, m75_6, m75_9, s75_15, s75_16, s75_17, s75_21, s75_21b, s75_24, s75_25, s75_26, s75_27, s75_32, s75_32b, s75_35, s75_36, s75_41, s75_41b, s75_44, s75_46, s75_47, m75_48, m75_51, s75_54, s75_55, s75_56, s75_60, Int.toNat_natCast, Int.toNat_natCast, Nat.reduceAdd, Nat.reduceMul, Int.reduceToNat, Int.reduceAdd, Int.reduceLT, Int.reduceLE, Int.reduceEq, Int.reduceNeg, Int.reduceMul, Int.reduceSub, Nat.reduceSub, reduceIte, ite_true, ite_false, and_true, true_and, and_self, c0, r75, m75_12 (sp36_1 (d := d - 1) (N := N) (L := L) (B := B) (G := G) (by omega))]
    · simp only [r75, if_pos c0]; exact pv_wipe1 hP
  · by_cases c1 : 0 ≤ b ∧ b < H 0 0
    · by_cases c2 : 0 ≤ f ∧ f ≤ 99
      · by_cases c3 : 0 ≤ n ∧ n ≤ 30
        · obtain ⟨G1, h35, w35, f35⟩ := sp35_1 (d := d - 1) (N := N) (L := L) (B := B) (b := b) (x := f) (y := n) (by omega) hP hPo
          refine ⟨G1, ?_, ?_, fun a ha => f35 a (by omega)⟩
          · refine e75 (by omega) ?_
            simp (disch := omega) only [s75_0, s75_1, s75_2, s75_2b, s75_5, m75_6, m75_9, s75_15, s75_16, s75_17, s75_21, s75_21b, s75_24, s75_25, s75_26, s75_27, s75_32, s75_32b, s75_35, s75_36, s75_41, s75_41b, s75_44, s75_46, s75_47, m75_48, m75_51, s75_54, s75_55, s75_56, s75_60, Int.toNat_natCast, Int.toNat_natCast, Nat.reduceAdd, Nat.reduceMul, Int.reduceToNat, Int.reduceAdd, Int.reduceLT, Int.reduceLE, Int.reduceEq, Int.reduceNeg, Int.reduceMul, Int.reduceSub, Nat.reduceSub, reduceIte, ite_true, ite_false, and_true, true_and, and_self, c0, c1, c2, c3, r75, m75_18 h94, c75_29 h981, c75_38 h982, m75_57 h35]
          · simp only [r75, Int.toNat_natCast, Int.toNat_natCast, Nat.reduceAdd, Nat.reduceMul, Int.reduceToNat, Int.reduceAdd, Int.reduceLT, Int.reduceLE, Int.reduceEq, Int.reduceNeg, Int.reduceMul, Int.reduceSub, Nat.reduceSub, reduceIte, ite_true, ite_false, and_true, true_and, and_self, c0, c1, c2, c3]; exact w35
        · refine ⟨G, ?_, ?_, fun _ _ => rfl⟩
          · refine e75 (by omega) ?_
            simp (disch := omega) only [s75_0, s75_1, s75_2, s75_2b, s75_5, m75_6, m75_9, s75_15, s75_16, s75_17, s75_21, s75_21b, s75_24, s75_25, s75_26, s75_27, s75_32, s75_32b, s75_35, s75_36, s75_41, s75_41b, s75_44, s75_46, s75_47, m75_48, m75_51, s75_54, s75_55, s75_56, s75_60, Int.toNat_natCast, Int.toNat_natCast, Nat.reduceAdd, Nat.reduceMul, Int.reduceToNat, Int.reduceAdd, Int.reduceLT, Int.reduceLE, Int.reduceEq, Int.reduceNeg, Int.reduceMul, Int.reduceSub, Nat.reduceSub, reduceIte, ite_true, ite_false, and_true, true_and, and_self, c0, c1, c2, c3, r75, m75_18 h94, c75_29 h981, c75_38 h982]
          · simp only [r75, Int.toNat_natCast, Int.toNat_natCast, Nat.reduceAdd, Nat.reduceMul, Int.reduceToNat, Int.reduceAdd, Int.reduceLT, Int.reduceLE, Int.reduceEq, Int.reduceNeg, Int.reduceMul, Int.reduceSub, Nat.reduceSub, reduceIte, ite_true, ite_false, and_true, true_and, and_self, c0, c1, c2, c3]; exact hP
      · refine ⟨G, ?_, ?_, fun _ _ => rfl⟩
        · refine e75 (by omega) ?_
          simp (disch := omega) only [s75_0, s75_1, s75_2, s75_2b, s75_5, m75_6, m75_9, s75_15, s75_16, s75_17, s75_21, s75_21b, s75_24, s75_25, s75_26, s75_27, s75_32, s75_32b, s75_35, s75_36, s75_41, s75_41b, s75_44, s75_46, s75_47, m75_48, m75_51, s75_54, s75_55, s75_56, s75_60, Int.toNat_natCast, Int.toNat_natCast, Nat.reduceAdd, Nat.reduceMul, Int.reduceToNat, Int.reduceAdd, Int.reduceLT, Int.reduceLE, Int.reduceEq, Int.reduceNeg, Int.reduceMul, Int.reduceSub, Nat.reduceSub, reduceIte, ite_true, ite_false, and_true, true_and, and_self, c0, c1, c2, r75, m75_18 h94, c75_29 h981, false_and]
        · simp only [r75, Int.toNat_natCast, Int.toNat_natCast, Nat.reduceAdd, Nat.reduceMul, Int.reduceToNat, Int.reduceAdd, Int.reduceLT, Int.reduceLE, Int.reduceEq, Int.reduceNeg, Int.reduceMul, Int.reduceSub, Nat.reduceSub, reduceIte, ite_true, ite_false, and_true, true_and, and_self, c0, c1, c2, false_and]; exact hP
    · refine ⟨G, ?_, ?_, fun _ _ => rfl⟩
      · refine e75 (by omega) ?_
        simp (disch := omega) only [s75_0, s75_1, s75_2, s75_2b, s75_5, m75_6, m75_9, s75_15, s75_16, s75_17, s75_21, s75_21b, s75_24, s75_25, s75_26, s75_27, s75_32, s75_32b, s75_35, s75_36, s75_41, s75_41b, s75_44, s75_46, s75_47, m75_48, m75_51, s75_54, s75_55, s75_56, s75_60, Int.toNat_natCast, Int.toNat_natCast, Nat.reduceAdd, Nat.reduceMul, Int.reduceToNat, Int.reduceAdd, Int.reduceLT, Int.reduceLE, Int.reduceEq, Int.reduceNeg, Int.reduceMul, Int.reduceSub, Nat.reduceSub, reduceIte, ite_true, ite_false, and_true, true_and, and_self, c0, c1, r75, m75_18 h94]
      · simp only [r75, if_neg c0, if_neg c1]; exact hP
def r79 (H P : q_Gi) (b f : Int) : Int × q_Gi := if b = -1 then (0, setS P 0 2 0) else if b = 6 then xadd2 P b f 0 else if (0 ≤ b ∧ b < H 0 0) ∧ (0 ≤ f ∧ f < 4) then xadd2 P b f 0 else (-1, P)
theorem sp79 {d N L : Nat} {b f : Int} {B : q_Bv} {G H P : q_Gi} (hd : 3 ≤ d) (hv : hv1 G H) (ho : Hok H) (hP : pv G P) (hPo : Pok P) (hb : -2147483648 ≤ b ∧ b ≤ 2147483647) (hf : -2147483648 ≤ f ∧ f ≤ 2147483647) : ∃ G', Sp d 79 [.ref 0, vI b, vI f] (hp N L B G) (some (vI (r79 H P b f).1)) (hp N L B G') ∧ pv G' (r79 H P b f).2 ∧ ∀ a, (a < 23 ∨ 38 < a) → G' a = G a := by
  have hv0 := hv.1
  have h94 := sp94 (d := d - 1) (N := N) (L := L) (B := B) (G := G) (by omega) hb (by rw [hv0]; exact ho.1)
  rw [hv0] at h94
  have h95 := sp95 (d := d - 1) (z := f) (X := hp N L B G) (by omega) hf
  obtain ⟨G1, h35, w35, f35⟩ := sp35_2 (d := d - 1) (N := N) (L := L) (B := B) (b := b) (x := f) (y := 0) (by omega) hP hPo
  by_cases c0 : b = -1
  · refine ⟨ug G 31 1 0, ?_, ?_, fun a ha => ug_ne (by omega)⟩
    · refine e79 (by omega) ?_
      simp (disch := omega) only [s79_0, s79_1, s79_2, s79_2b, s79_5, m79_6, m79_9, s79_15, s79_16, s79_17, s79_19, s79_19b, s79_22, s79_23, s79_27, s79_27b, s79_30, s79_34, s79_34b, s79_37, s79_38, s79_39, m79_40, m79_43, s79_46, s79_47, s79_48, s79_52, Int.toNat_natCast, Int.toNat_natCast, Nat.reduceAdd, Nat.reduceMul, Int.reduceToNat, Int.reduceAdd, Int.reduceLT, Int.reduceLE, Int.reduceEq, Int.reduceNeg, Int.reduceMul, Int.reduceSub, Nat.reduceSub, reduceIte, ite_true, ite_false, and_true, true_and, and_self, c0, r79, m79_12 (sp36_2 (d := d - 1) (N := N) (L := L) (B := B) (G := G) (by omega))]
    · simp only [r79, if_pos c0]; exact pv_wipe2 hP
  by_cases c6 : b = 6
  · refine ⟨G1, ?_, ?_, fun a ha => f35 a (by omega)⟩
    · refine e79 (by omega) ?_
      simp (disch := omega) only [s79_0, s79_1, s79_2, s79_2b, s79_5, m79_6, m79_9, s79_15, s79_16, s79_17, s79_19, s79_19b, s79_22, s79_23, s79_27, s79_27b, s79_30, s79_34, s79_34b, s79_37, s79_38, s79_39, m79_40, m79_43, s79_46, s79_47, s79_48, s79_52, Int.toNat_natCast, Int.toNat_natCast, Nat.reduceAdd, Nat.reduceMul, Int.reduceToNat, Int.reduceAdd, Int.reduceLT, Int.reduceLE, Int.reduceEq, Int.reduceNeg, Int.reduceMul, Int.reduceSub, Nat.reduceSub, reduceIte, ite_true, ite_false, and_true, true_and, and_self, c0, c6, r79]
      rw [c6] at h35
      simp (disch := omega) only [s79_52, Int.toNat_natCast, Int.toNat_natCast, Nat.reduceAdd, Nat.reduceMul, Int.reduceToNat, Int.reduceAdd, Int.reduceLT, Int.reduceLE, Int.reduceEq, Int.reduceNeg, Int.reduceMul, Int.reduceSub, Nat.reduceSub, reduceIte, ite_true, ite_false, and_true, true_and, and_self, m79_49 h35]
    · simp only [r79, if_neg c0, if_pos c6]; exact w35
  by_cases c1 : 0 ≤ b ∧ b < H 0 0
  · by_cases c2 : 0 ≤ f ∧ f < 4
    · refine ⟨G1, ?_, ?_, fun a ha => f35 a (by omega)⟩
      · refine e79 (by omega) ?_
        simp (disch := omega) only [s79_0, s79_1, s79_2, s79_2b, s79_5, m79_6, m79_9, s79_15, s79_16, s79_17, s79_19, s79_19b, s79_22, s79_23, s79_27, s79_27b, s79_30, s79_34, s79_34b, s79_37, s79_38, s79_39, m79_40, m79_43, s79_46, s79_47, s79_48, s79_52, Int.toNat_natCast, Int.toNat_natCast, Nat.reduceAdd, Nat.reduceMul, Int.reduceToNat, Int.reduceAdd, Int.reduceLT, Int.reduceLE, Int.reduceEq, Int.reduceNeg, Int.reduceMul, Int.reduceSub, Nat.reduceSub, reduceIte, ite_true, ite_false, and_true, true_and, and_self, c0, c6, c1, c2, r79, m79_24 h94, c79_31 h95, m79_49 h35]
      · simp only [r79, Int.toNat_natCast, Int.toNat_natCast, Nat.reduceAdd, Nat.reduceMul, Int.reduceToNat, Int.reduceAdd, Int.reduceLT, Int.reduceLE, Int.reduceEq, Int.reduceNeg, Int.reduceMul, Int.reduceSub, Nat.reduceSub, reduceIte, ite_true, ite_false, and_true, true_and, and_self, c0, c6, c1, c2]; exact w35
    · refine ⟨G, ?_, ?_, fun _ _ => rfl⟩
      · refine e79 (by omega) ?_
        simp (disch := omega) only [s79_0, s79_1, s79_2, s79_2b, s79_5, m79_6, m79_9, s79_15, s79_16, s79_17, s79_19, s79_19b, s79_22, s79_23, s79_27, s79_27b, s79_30, s79_34, s79_34b, s79_37, s79_38, s79_39, m79_40, m79_43, s79_46, s79_47, s79_48, s79_52, Int.toNat_natCast, Int.toNat_natCast, Nat.reduceAdd, Nat.reduceMul, Int.reduceToNat, Int.reduceAdd, Int.reduceLT, Int.reduceLE, Int.reduceEq, Int.reduceNeg, Int.reduceMul, Int.reduceSub, Nat.reduceSub, reduceIte, ite_true, ite_false, and_true, true_and, and_self, c0, c6, c1, c2, r79, m79_24 h94, c79_31 h95, and_false]
      · simp only [r79, Int.toNat_natCast, Int.toNat_natCast, Nat.reduceAdd, Nat.reduceMul, Int.reduceToNat, Int.reduceAdd, Int.reduceLT, Int.reduceLE, Int.reduceEq, Int.reduceNeg, Int.reduceMul, Int.reduceSub, Nat.reduceSub, reduceIte, ite_true, ite_false, and_true, true_and, and_self, c0, c6, c2, and_false]; exact hP
  · refine ⟨G, ?_, ?_, fun _ _ => rfl⟩
    · refine e79 (by omega) ?_
      simp (disch := omega) only [s79_0, s79_1, s79_2, s79_2b, s79_5, m79_6, m79_9, s79_15, s79_16, s79_17, s79_19, s79_19b, s79_22, s79_23, s79_27, s79_27b, s79_30, s79_34, s79_34b, s79_37, s79_38, s79_39, m79_40, m79_43, s79_46, s79_47, s79_48, s79_52, Int.toNat_natCast, Int.toNat_natCast, Nat.reduceAdd, Nat.reduceMul, Int.reduceToNat, Int.reduceAdd, Int.reduceLT, Int.reduceLE, Int.reduceEq, Int.reduceNeg, Int.reduceMul, Int.reduceSub, Nat.reduceSub, reduceIte, ite_true, ite_false, and_true, true_and, and_self, c0, c6, c1, r79, m79_24 h94, false_and]
    · simp only [r79, Int.toNat_natCast, Int.toNat_natCast, Nat.reduceAdd, Nat.reduceMul, Int.reduceToNat, Int.reduceAdd, Int.reduceLT, Int.reduceLE, Int.reduceEq, Int.reduceNeg, Int.reduceMul, Int.reduceSub, Nat.reduceSub, reduceIte, ite_true, ite_false, and_true, true_and, and_self, c0, c6, c1, false_and]; exact hP
def r81 (H P : q_Gi) (b f : Int) : Int × q_Gi := if b = -1 then (0, setS P 0 3 0) else if 0 ≤ b ∧ b < H 0 0 then (if 0 ≤ f ∧ f ≤ 99 then xadd3 P b f 0 else (-2, P)) else (-1, P)
theorem sp81 {d N L : Nat} {b f : Int} {B : q_Bv} {G H P : q_Gi} (hd : 3 ≤ d) (hv : hv1 G H) (ho : Hok H) (hP : pv G P) (hPo : Pok P) (hb : -2147483648 ≤ b ∧ b ≤ 2147483647) (hf : -2147483648 ≤ f ∧ f ≤ 2147483647) : ∃ G', Sp d 81 [.ref 0, vI b, vI f] (hp N L B G) (some (vI (r81 H P b f).1)) (hp N L B G') ∧ pv G' (r81 H P b f).2 ∧ ∀ a, (a < 23 ∨ 38 < a) → G' a = G a := by
  have hv0 := hv.1
  have h94 := sp94 (d := d - 1) (N := N) (L := L) (B := B) (G := G) (by omega) hb (by rw [hv0]; exact ho.1)
  rw [hv0] at h94
  have h98 := sp98 (d := d - 1) (z := f) (m := 99) (X := hp N L B G) (by omega) hf (by omega)
  by_cases c0 : b = -1
  · refine ⟨ug G 35 1 0, ?_, ?_, fun a ha => ug_ne (by omega)⟩
    · refine e81 (by omega) ?_
      simp (disch := omega) only [s81_0, s81_1, s81_2, s81_2b, s81_5, m81_6, m81_9, s81_15, s81_16, s81_17, s81_21, s81_21b, s81_24, s81_25, s81_26, s81_27, s81_32, s81_32b, s81_35, s81_37, s81_38, m81_39, m81_42, s81_45, s81_46, s81_47, s81_51, Int.toNat_natCast, Int.toNat_natCast, Nat.reduceAdd, Nat.reduceMul, Int.reduceToNat, Int.reduceAdd, Int.reduceLT, Int.reduceLE, Int.reduceEq, Int.reduceNeg, Int.reduceMul, Int.reduceSub, Nat.reduceSub, reduceIte, ite_true, ite_false, and_true, true_and, and_self, c0, r81, m81_12 (sp36_3 (d := d - 1) (N := N) (L := L) (B := B) (G := G) (by omega))]
    · simp only [r81, if_pos c0]; exact pv_wipe3 hP
  · by_cases c1 : 0 ≤ b ∧ b < H 0 0
    · by_cases c2 : 0 ≤ f ∧ f ≤ 99
      · obtain ⟨G1, h35, w35, f35⟩ := sp35_3 (d := d - 1) (N := N) (L := L) (B := B) (b := b) (x := f) (y := 0) (by omega) hP hPo
        refine ⟨G1, ?_, ?_, fun a ha => f35 a (by omega)⟩
        · refine e81 (by omega) ?_
          simp (disch := omega) only [s81_0, s81_1, s81_2, s81_2b, s81_5, m81_6, m81_9, s81_15, s81_16, s81_17, s81_21, s81_21b, s81_24, s81_25, s81_26, s81_27, s81_32, s81_32b, s81_35, s81_37, s81_38, m81_39, m81_42, s81_45, s81_46, s81_47, s81_51, Int.toNat_natCast, Int.toNat_natCast, Nat.reduceAdd, Nat.reduceMul, Int.reduceToNat, Int.reduceAdd, Int.reduceLT, Int.reduceLE, Int.reduceEq, Int.reduceNeg, Int.reduceMul, Int.reduceSub, Nat.reduceSub, reduceIte, ite_true, ite_false, and_true, true_and, and_self, c0, c1, c2, r81, m81_18 h94, c81_29 h98, m81_48 h35]
        · simp only [r81, Int.toNat_natCast, Int.toNat_natCast, Nat.reduceAdd, Nat.reduceMul, Int.reduceToNat, Int.reduceAdd, Int.reduceLT, Int.reduceLE, Int.reduceEq, Int.reduceNeg, Int.reduceMul, Int.reduceSub, Nat.reduceSub, reduceIte, ite_true, ite_false, and_true, true_and, and_self, c0, c1, c2]; exact w35
      · refine ⟨G, ?_, ?_, fun _ _ => rfl⟩
        · refine e81 (by omega) ?_
          simp (disch := omega) only [s81_0, s81_1, s81_2, s81_2b, s81_5, m81_6, m81_9, s81_15, s81_16, s81_17, s81_21, s81_21b, s81_24, s81_25, s81_26, s81_27, s81_32, s81_32b, s81_35, s81_37, s81_38, m81_39, m81_42, s81_45, s81_46, s81_47, s81_51, Int.toNat_natCast, Int.toNat_natCast, Nat.reduceAdd, Nat.reduceMul, Int.reduceToNat, Int.reduceAdd, Int.reduceLT, Int.reduceLE, Int.reduceEq, Int.reduceNeg, Int.reduceMul, Int.reduceSub, Nat.reduceSub, reduceIte, ite_true, ite_false, and_true, true_and, and_self, c0, c1, c2, r81, m81_18 h94, c81_29 h98]
        · simp only [r81, Int.toNat_natCast, Int.toNat_natCast, Nat.reduceAdd, Nat.reduceMul, Int.reduceToNat, Int.reduceAdd, Int.reduceLT, Int.reduceLE, Int.reduceEq, Int.reduceNeg, Int.reduceMul, Int.reduceSub, Nat.reduceSub, reduceIte, ite_true, ite_false, and_true, true_and, and_self, c0, c1, c2]; exact hP
    · refine ⟨G, ?_, ?_, fun _ _ => rfl⟩
      · refine e81 (by omega) ?_
        simp (disch := omega) only [s81_0, s81_1, s81_2, s81_2b, s81_5, m81_6, m81_9, s81_15, s81_16, s81_17, s81_21, s81_21b, s81_24, s81_25, s81_26, s81_27, s81_32, s81_32b, s81_35, s81_37, s81_38, m81_39, m81_42, s81_45, s81_46, s81_47, s81_51, Int.toNat_natCast, Int.toNat_natCast, Nat.reduceAdd, Nat.reduceMul, Int.reduceToNat, Int.reduceAdd, Int.reduceLT, Int.reduceLE, Int.reduceEq, Int.reduceNeg, Int.reduceMul, Int.reduceSub, Nat.reduceSub, reduceIte, ite_true, ite_false, and_true, true_and, and_self, c0, c1, r81, m81_18 h94]
      · simp only [r81, if_neg c0, if_neg c1]; exact hP
