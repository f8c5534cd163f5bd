/-! the class's calls: tape, item, read, shift, judge -/
theorem tp0 {B : q_Bv} {G : q_Gi} : mm B G 65 0 = .ref 66 := mm_fc (c := 66) rfl rfl
theorem tp1 {B : q_Bv} {G : q_Gi} : mm B G 65 1 = .ref 68 := mm_fc (c := 68) rfl rfl
theorem tp2 {B : q_Bv} {G : q_Gi} : mm B G 65 2 = .ref 70 := mm_fc (c := 70) rfl rfl
theorem tp3 {B : q_Bv} {G : q_Gi} : mm B G 65 3 = .ref 72 := mm_fc (c := 72) rfl rfl
theorem tp4 {B : q_Bv} {G : q_Gi} : mm B G 65 4 = .ref 74 := mm_fc (c := 74) rfl rfl
theorem tp5 {B : q_Bv} {G : q_Gi} : mm B G 65 5 = .ref 76 := mm_fc (c := 76) rfl rfl
def x90 (T : q_Gi) (z s n : Int) : Int × q_Gi := if 0 ≤ z ∧ z < 6 then (if s = -1 then (1, becS T z.toNat (-1) 0) else if (0 ≤ s ∧ s ≤ 4) ∧ n ≤ 60 then (if n < 0 then (-14, T) else (1, becS T z.toNat s n)) else (-2, T)) else (-1, T)
def x91 (T : q_Gi) (z i v : Int) : Int × q_Gi := if 0 ≤ z ∧ z < 6 then (if T 0 z.toNat = -1 then (-11, T) else if 0 ≤ i ∧ i < T 1 z.toNat then (1, itS T z.toNat i.toNat (nrS (T 0 z.toNat) v)) else (-13, T)) else (-1, T)
def r92 (T : q_Gi) (z i : Int) : Int := if (0 ≤ z ∧ z < 6) ∧ (0 ≤ i ∧ i < T 1 z.toNat) then T (2 + z.toNat) i.toNat else -9223372036854775808
theorem sp90_0 {d N L : Nat} {s n : Int} {B : q_Bv} {G T : q_Gi} (hd : 4 ≤ d) (h : tv G T) (hs : -2147483648 ≤ s ∧ s ≤ 2147483647) (hn : -2147483648 ≤ n ∧ n ≤ 2147483647) : ∃ G', Sp d 90 [.ref 0, vI 0, vI s, vI n] (hp N L B G) (some (vI (x90 T 0 s n).1)) (hp N L B G') ∧ tv G' (x90 T 0 s n).2 ∧ ∀ a, (a < 66 ∨ 77 < a) → G' a = G a := by
  have h97 := sp97 (d := d - 1) (z := 0) (X := hp N L B G) (by omega) (by omega)
  rw [bI_t (by omega)] at h97
  have e : x90 T 0 s n = (if s = -1 then (1, becS T 0 (-1) 0) else if (0 ≤ s ∧ s ≤ 4) ∧ n ≤ 60 then (if n < 0 then (-14, T) else (1, becS T 0 s n)) else (-2, T)) := rfl
  rw [e]
  by_cases c0 : s = -1
  · obtain ⟨G1, h41, w41, f41⟩ := sp41_0 (d := d - 1) (N := N) (L := L) (B := B) (s := -1) (n := 0) (by omega) h
    refine ⟨G1, ?_, by rw [if_pos c0]; exact w41, f41⟩
    refine e90 (by omega) ?_
    simp (disch := omega) only [s90_0, s90_4, s90_4b, s90_7, s90_8, s90_9, s90_10, s90_11, s90_11b, s90_14, m90_15, s90_18, m90_19, s90_20, s90_21, s90_25, s90_26, s90_27, s90_28, s90_31, s90_32, s90_33, s90_36, s90_37, s90_39, s90_42, s90_44, s90_45, s90_46, s90_49, s90_51, s90_52, m90_53, s90_56, m90_57, s90_58, s90_59, s90_63, s90_64, Int.toNat_natCast, Int.toNat_natCast, Nat.reduceAdd, Nat.reduceMul, Int.reduceToNat, Int.reduceAdd, Int.reduceLT, Int.reduceLE, Int.reduceEq, Int.reduceNeg, Int.reduceMul, Int.reduceSub, Nat.reduceSub, reduceIte, ite_true, ite_false, and_true, true_and, and_self, c90_1 h97, c0, tp0, m90_22_66 h41]
  · by_cases c1 : 0 ≤ s ∧ s ≤ 4
    · by_cases c2 : n ≤ 60
      · by_cases c3 : n < 0
        · refine ⟨G, ?_, by simp only [Int.toNat_natCast, Int.toNat_natCast, Nat.reduceAdd, Nat.reduceMul, Int.reduceToNat, Int.reduceAdd, Int.reduceLT, Int.reduceLE, Int.reduceEq, Int.reduceNeg, Int.reduceMul, Int.reduceSub, Nat.reduceSub, reduceIte, ite_true, ite_false, and_true, true_and, and_self, c0, c1, c2, c3]; exact h, fun _ _ => rfl⟩
          refine e90 (by omega) ?_
          have d1 : ¬ s < 0 := by omega
          have d2 : ¬ 4 < s := by omega
          have d3 : ¬ 60 < n := by omega
          simp (disch := omega) only [s90_0, s90_4, s90_4b, s90_7, s90_8, s90_9, s90_10, s90_11, s90_11b, s90_14, m90_15, s90_18, m90_19, s90_20, s90_21, s90_25, s90_26, s90_27, s90_28, s90_31, s90_32, s90_33, s90_36, s90_37, s90_39, s90_42, s90_44, s90_45, s90_46, s90_49, s90_51, s90_52, m90_53, s90_56, m90_57, s90_58, s90_59, s90_63, s90_64, Int.toNat_natCast, Int.toNat_natCast, Nat.reduceAdd, Nat.reduceMul, Int.reduceToNat, Int.reduceAdd, Int.reduceLT, Int.reduceLE, Int.reduceEq, Int.reduceNeg, Int.reduceMul, Int.reduceSub, Nat.reduceSub, reduceIte, ite_true, ite_false, and_true, true_and, and_self, c90_1 h97, c0, c1, c2, c3, d1, d2, d3]
        · obtain ⟨G1, h41, w41, f41⟩ := sp41_0 (d := d - 1) (N := N) (L := L) (B := B) (s := s) (n := n) (by omega) h
          refine ⟨G1, ?_, by simp only [Int.toNat_natCast, Int.toNat_natCast, Nat.reduceAdd, Nat.reduceMul, Int.reduceToNat, Int.reduceAdd, Int.reduceLT, Int.reduceLE, Int.reduceEq, Int.reduceNeg, Int.reduceMul, Int.reduceSub, Nat.reduceSub, reduceIte, ite_true, ite_false, and_true, true_and, and_self, c0, c1, c2, c3]; exact w41, f41⟩
          refine e90 (by omega) ?_
          have d1 : ¬ s < 0 := by omega
          have d2 : ¬ 4 < s := by omega
          have d3 : ¬ 60 < n := by omega
          simp (disch := omega) only [s90_0, s90_4, s90_4b, s90_7, s90_8, s90_9, s90_10, s90_11, s90_11b, s90_14, m90_15, s90_18, m90_19, s90_20, s90_21, s90_25, s90_26, s90_27, s90_28, s90_31, s90_32, s90_33, s90_36, s90_37, s90_39, s90_42, s90_44, s90_45, s90_46, s90_49, s90_51, s90_52, m90_53, s90_56, m90_57, s90_58, s90_59, s90_63, s90_64, Int.toNat_natCast, Int.toNat_natCast, Nat.reduceAdd, Nat.reduceMul, Int.reduceToNat, Int.reduceAdd, Int.reduceLT, Int.reduceLE, Int.reduceEq, Int.reduceNeg, Int.reduceMul, Int.reduceSub, Nat.reduceSub, reduceIte, ite_true, ite_false, and_true, true_and, and_self, c90_1 h97, c0, c1, c2, c3, d1, d2, d3, tp0, m90_60_66 h41]
      · refine ⟨G, ?_, by simp only [Int.toNat_natCast, Int.toNat_natCast, Nat.reduceAdd, Nat.reduceMul, Int.reduceToNat, Int.reduceAdd, Int.reduceLT, Int.reduceLE, Int.reduceEq, Int.reduceNeg, Int.reduceMul, Int.reduceSub, Nat.reduceSub, reduceIte, ite_true, ite_false, and_true, true_and, and_self, c0, c2, and_false]; exact h, fun _ _ => rfl⟩
        refine e90 (by omega) ?_
        have d1 : ¬ s < 0 := by omega
        have d2 : ¬ 4 < s := by omega
        have d3 : 60 < n := by omega
        simp (disch := omega) only [s90_0, s90_4, s90_4b, s90_7, s90_8, s90_9, s90_10, s90_11, s90_11b, s90_14, m90_15, s90_18, m90_19, s90_20, s90_21, s90_25, s90_26, s90_27, s90_28, s90_31, s90_32, s90_33, s90_36, s90_37, s90_39, s90_42, s90_44, s90_45, s90_46, s90_49, s90_51, s90_52, m90_53, s90_56, m90_57, s90_58, s90_59, s90_63, s90_64, Int.toNat_natCast, Int.toNat_natCast, Nat.reduceAdd, Nat.reduceMul, Int.reduceToNat, Int.reduceAdd, Int.reduceLT, Int.reduceLE, Int.reduceEq, Int.reduceNeg, Int.reduceMul, Int.reduceSub, Nat.reduceSub, reduceIte, ite_true, ite_false, and_true, true_and, and_self, c90_1 h97, c0, c2, d1, d2, d3, and_false]
    · refine ⟨G, ?_, by simp only [Int.toNat_natCast, Int.toNat_natCast, Nat.reduceAdd, Nat.reduceMul, Int.reduceToNat, Int.reduceAdd, Int.reduceLT, Int.reduceLE, Int.reduceEq, Int.reduceNeg, Int.reduceMul, Int.reduceSub, Nat.reduceSub, reduceIte, ite_true, ite_false, and_true, true_and, and_self, c0, c1, false_and]; exact h, fun _ _ => rfl⟩
      refine e90 (by omega) ?_
      by_cases d1 : s < 0
      · simp (disch := omega) only [s90_0, s90_4, s90_4b, s90_7, s90_8, s90_9, s90_10, s90_11, s90_11b, s90_14, m90_15, s90_18, m90_19, s90_20, s90_21, s90_25, s90_26, s90_27, s90_28, s90_31, s90_32, s90_33, s90_36, s90_37, s90_39, s90_42, s90_44, s90_45, s90_46, s90_49, s90_51, s90_52, m90_53, s90_56, m90_57, s90_58, s90_59, s90_63, s90_64, Int.toNat_natCast, Int.toNat_natCast, Nat.reduceAdd, Nat.reduceMul, Int.reduceToNat, Int.reduceAdd, Int.reduceLT, Int.reduceLE, Int.reduceEq, Int.reduceNeg, Int.reduceMul, Int.reduceSub, Nat.reduceSub, reduceIte, ite_true, ite_false, and_true, true_and, and_self, c90_1 h97, c0, c1, d1, false_and]
      · have d2 : 4 < s := by omega
        simp (disch := omega) only [s90_0, s90_4, s90_4b, s90_7, s90_8, s90_9, s90_10, s90_11, s90_11b, s90_14, m90_15, s90_18, m90_19, s90_20, s90_21, s90_25, s90_26, s90_27, s90_28, s90_31, s90_32, s90_33, s90_36, s90_37, s90_39, s90_42, s90_44, s90_45, s90_46, s90_49, s90_51, s90_52, m90_53, s90_56, m90_57, s90_58, s90_59, s90_63, s90_64, Int.toNat_natCast, Int.toNat_natCast, Nat.reduceAdd, Nat.reduceMul, Int.reduceToNat, Int.reduceAdd, Int.reduceLT, Int.reduceLE, Int.reduceEq, Int.reduceNeg, Int.reduceMul, Int.reduceSub, Nat.reduceSub, reduceIte, ite_true, ite_false, and_true, true_and, and_self, c90_1 h97, c0, c1, d1, d2, false_and]
theorem sp91_0 {d N L : Nat} {i v : Int} {B : q_Bv} {G T : q_Gi} (hd : 4 ≤ d) (h : tv G T) (ho : Tok T) (hi : -2147483648 ≤ i ∧ i ≤ 2147483647) (hv : lr v) : ∃ G', Sp d 91 [.ref 0, vI 0, vI i, vL v] (hp N L B G) (some (vI (x91 T 0 i v).1)) (hp N L B G') ∧ tv G' (x91 T 0 i v).2 ∧ ∀ a, (a < 66 ∨ 77 < a) → G' a = G a := by
  have h97 := sp97 (d := d - 1) (z := 0) (X := hp N L B G) (by omega) (by omega)
  rw [bI_t (by omega)] at h97
  have h42 := sp42_0 (d := d - 1) (N := N) (L := L) (B := B) (by omega) h ho hi
  have h44 := sp44_0 (d := d - 1) (N := N) (L := L) (B := B) (by omega) h ho hv
  have o1 := ho 0 (by omega)
  have w := h
  obtain ⟨h0, h1, h2, h3, h4, h5⟩ := h
  have e : x91 T 0 i v = (if T 0 0 = -1 then (-11, T) else if 0 ≤ i ∧ i < T 1 0 then (1, itS T 0 i.toNat (nrS (T 0 0) v)) else (-13, T)) := rfl
  rw [e]
  by_cases c0 : T 0 0 = -1
  · refine ⟨G, ?_, by rw [if_pos c0]; exact w, fun _ _ => rfl⟩
    refine e91 (by omega) ?_
    simp (disch := omega) only [s91_0, s91_4, s91_4b, s91_7, s91_8, s91_9, m91_10, s91_13, m91_14, s91_15, s91_17, m91_19_66, m91_19_68, m91_19_70, m91_19_72, m91_19_74, m91_19_76, s91_22, s91_23, s91_23b, s91_26, s91_28, s91_29, s91_31, s91_35, s91_35b, s91_38, s91_40, s91_41, m91_43_66, m91_43_68, m91_43_70, m91_43_72, m91_43_74, m91_43_76, s91_46, s91_47, s91_49, m91_53_67, m91_53_69, m91_53_71, m91_53_73, m91_53_75, m91_53_77, s91_54, s91_55, Int.toNat_natCast, Int.toNat_natCast, Nat.reduceAdd, Nat.reduceMul, Int.reduceToNat, Int.reduceAdd, Int.reduceLT, Int.reduceLE, Int.reduceEq, Int.reduceNeg, Int.reduceMul, Int.reduceSub, Nat.reduceSub, reduceIte, ite_true, ite_false, and_true, true_and, and_self, c91_1 h97, c0, tp0, h0.1]
  · by_cases c1 : 0 ≤ i ∧ i < T 1 0
    · refine ⟨ug G 67 i.toNat (nrS (T 0 0) v), ?_, ?_, fun a ha => ug_ne (by omega)⟩
      · refine e91 (by omega) ?_
        simp (disch := omega) only [s91_0, s91_4, s91_4b, s91_7, s91_8, s91_9, m91_10, s91_13, m91_14, s91_15, s91_17, m91_19_66, m91_19_68, m91_19_70, m91_19_72, m91_19_74, m91_19_76, s91_22, s91_23, s91_23b, s91_26, s91_28, s91_29, s91_31, s91_35, s91_35b, s91_38, s91_40, s91_41, m91_43_66, m91_43_68, m91_43_70, m91_43_72, m91_43_74, m91_43_76, s91_46, s91_47, s91_49, m91_53_67, m91_53_69, m91_53_71, m91_53_73, m91_53_75, m91_53_77, s91_54, s91_55, Int.toNat_natCast, Int.toNat_natCast, Nat.reduceAdd, Nat.reduceMul, Int.reduceToNat, Int.reduceAdd, Int.reduceLT, Int.reduceLE, Int.reduceEq, Int.reduceNeg, Int.reduceMul, Int.reduceSub, Nat.reduceSub, reduceIte, ite_true, ite_false, and_true, true_and, and_self, c91_1 h97, c0, c1, tp0, h0.1, m91_32_66 h42, m91_50_66 h44]
      · rw [if_neg c0, if_pos c1]
        show tv _ (itS T 0 i.toNat (nrS (T 0 0) v))
        refine tv_upd0 w ⟨?_, ?_, ?_⟩ (fun a _ h2 => ug_ne h2) (fun k hk => ⟨?_, ?_, ?_⟩)
        · rw [ug_ne (by omega)]; exact h0.1
        · rw [ug_ne (by omega)]; exact h0.2.1
        · intro k hk
          unfold itS
          by_cases e2 : k = i.toNat
          · rw [e2, ug_at, if_pos ⟨rfl, rfl⟩]
          · rw [ug_k e2, if_neg (by omega)]; exact h0.2.2 k hk
        · unfold itS; rw [if_neg (by omega)]
        · unfold itS; rw [if_neg (by omega)]
        · intro m hm; unfold itS; rw [if_neg (by omega)]
    · refine ⟨G, ?_, by rw [if_neg c0, if_neg c1]; exact w, fun _ _ => rfl⟩
      refine e91 (by omega) ?_
      simp (disch := omega) only [s91_0, s91_4, s91_4b, s91_7, s91_8, s91_9, m91_10, s91_13, m91_14, s91_15, s91_17, m91_19_66, m91_19_68, m91_19_70, m91_19_72, m91_19_74, m91_19_76, s91_22, s91_23, s91_23b, s91_26, s91_28, s91_29, s91_31, s91_35, s91_35b, s91_38, s91_40, s91_41, m91_43_66, m91_43_68, m91_43_70, m91_43_72, m91_43_74, m91_43_76, s91_46, s91_47, s91_49, m91_53_67, m91_53_69, m91_53_71, m91_53_73, m91_53_75, m91_53_77, s91_54, s91_55, Int.toNat_natCast, Int.toNat_natCast, Nat.reduceAdd, Nat.reduceMul, Int.reduceToNat, Int.reduceAdd, Int.reduceLT, Int.reduceLE, Int.reduceEq, Int.reduceNeg, Int.reduceMul, Int.reduceSub, Nat.reduceSub, reduceIte, ite_true, ite_false, and_true, true_and, and_self, c91_1 h97, c0, c1, tp0, h0.1, m91_32_66 h42]
theorem sp92_0 {d N L : Nat} {i : Int} {B : q_Bv} {G T : q_Gi} (hd : 4 ≤ d) (h : tv G T) (ho : Tok T) (hi : -2147483648 ≤ i ∧ i ≤ 2147483647) : Sp d 92 [.ref 0, vI 0, vI i] (hp N L B G) (some (vL (r92 T 0 i))) (hp N L B G) := by
  have h97 := sp97 (d := d - 1) (z := 0) (X := hp N L B G) (by omega) (by omega)
  rw [bI_t (by omega)] at h97
  have h42 := sp42_0 (d := d - 1) (N := N) (L := L) (B := B) (by omega) h ho hi
  have o1 := ho 0 (by omega)
  obtain ⟨h0, h1, h2, h3, h4, h5⟩ := h
  refine e92 (by omega) ?_
  by_cases c1 : 0 ≤ i ∧ i < T 1 0
  · have e : r92 T 0 i = T 2 i.toNat := by unfold r92; exact if_pos ⟨by decide, c1⟩
    rw [e]
    simp (disch := omega) only [s92_0, s92_4, s92_4b, s92_7, m92_8, s92_11, m92_12, s92_13, s92_17, s92_17b, s92_20, s92_23, s92_24, m92_25, s92_28, m92_29, m92_30_66, m92_30_68, m92_30_70, m92_30_72, m92_30_74, m92_30_76, s92_33, m92_34_67, m92_34_69, m92_34_71, m92_34_73, m92_34_75, m92_34_77, s92_35, Int.toNat_natCast, Int.toNat_natCast, Nat.reduceAdd, Nat.reduceMul, Int.reduceToNat, Int.reduceAdd, Int.reduceLT, Int.reduceLE, Int.reduceEq, Int.reduceNeg, Int.reduceMul, Int.reduceSub, Nat.reduceSub, reduceIte, ite_true, ite_false, and_true, true_and, and_self, c92_1 h97, c1, tp0, m92_14_66 h42, h0.2.2 i.toNat (by omega)]
  · have e : r92 T 0 i = -9223372036854775808 := by unfold r92; exact if_neg (fun hh => c1 hh.2)
    rw [e]
    simp (disch := omega) only [s92_0, s92_4, s92_4b, s92_7, m92_8, s92_11, m92_12, s92_13, s92_17, s92_17b, s92_20, s92_23, s92_24, m92_25, s92_28, m92_29, m92_30_66, m92_30_68, m92_30_70, m92_30_72, m92_30_74, m92_30_76, s92_33, m92_34_67, m92_34_69, m92_34_71, m92_34_73, m92_34_75, m92_34_77, s92_35, Int.toNat_natCast, Int.toNat_natCast, Nat.reduceAdd, Nat.reduceMul, Int.reduceToNat, Int.reduceAdd, Int.reduceLT, Int.reduceLE, Int.reduceEq, Int.reduceNeg, Int.reduceMul, Int.reduceSub, Nat.reduceSub, reduceIte, ite_true, ite_false, and_true, true_and, and_self, c92_1 h97, c1, tp0, m92_14_66 h42]
theorem sp90_1 {d N L : Nat} {s n : Int} {B : q_Bv} {G T : q_Gi} (hd : 4 ≤ d) (h : tv G T) (hs : -2147483648 ≤ s ∧ s ≤ 2147483647) (hn : -2147483648 ≤ n ∧ n ≤ 2147483647) : ∃ G', Sp d 90 [.ref 0, vI 1, vI s, vI n] (hp N L B G) (some (vI (x90 T 1 s n).1)) (hp N L B G') ∧ tv G' (x90 T 1 s n).2 ∧ ∀ a, (a < 66 ∨ 77 < a) → G' a = G a := by
  have h97 := sp97 (d := d - 1) (z := 1) (X := hp N L B G) (by omega) (by omega)
  rw [bI_t (by omega)] at h97
  have e : x90 T 1 s n = (if s = -1 then (1, becS T 1 (-1) 0) else if (0 ≤ s ∧ s ≤ 4) ∧ n ≤ 60 then (if n < 0 then (-14, T) else (1, becS T 1 s n)) else (-2, T)) := rfl
  rw [e]
  by_cases c0 : s = -1
  · obtain ⟨G1, h41, w41, f41⟩ := sp41_1 (d := d - 1) (N := N) (L := L) (B := B) (s := -1) (n := 0) (by omega) h
    refine ⟨G1, ?_, by rw [if_pos c0]; exact w41, f41⟩
    refine e90 (by omega) ?_
    simp (disch := omega) only [s90_0, s90_4, s90_4b, s90_7, s90_8, s90_9, s90_10, s90_11, s90_11b, s90_14, m90_15, s90_18, m90_19, s90_20, s90_21, s90_25, s90_26, s90_27, s90_28, s90_31, s90_32, s90_33, s90_36, s90_37, s90_39, s90_42, s90_44, s90_45, s90_46, s90_49, s90_51, s90_52, m90_53, s90_56, m90_57, s90_58, s90_59, s90_63, s90_64, Int.toNat_natCast, Int.toNat_natCast, Nat.reduceAdd, Nat.reduceMul, Int.reduceToNat, Int.reduceAdd, Int.reduceLT, Int.reduceLE, Int.reduceEq, Int.reduceNeg, Int.reduceMul, Int.reduceSub, Nat.reduceSub, reduceIte, ite_true, ite_false, and_true, true_and, and_self, c90_1 h97, c0, tp1, m90_22_68 h41]
  · by_cases c1 : 0 ≤ s ∧ s ≤ 4
    · by_cases c2 : n ≤ 60
      · by_cases c3 : n < 0
        · refine ⟨G, ?_, by simp only [Int.toNat_natCast, Int.toNat_natCast, Nat.reduceAdd, Nat.reduceMul, Int.reduceToNat, Int.reduceAdd, Int.reduceLT, Int.reduceLE, Int.reduceEq, Int.reduceNeg, Int.reduceMul, Int.reduceSub, Nat.reduceSub, reduceIte, ite_true, ite_false, and_true, true_and, and_self, c0, c1, c2, c3]; exact h, fun _ _ => rfl⟩
          refine e90 (by omega) ?_
          have d1 : ¬ s < 0 := by omega
          have d2 : ¬ 4 < s := by omega
          have d3 : ¬ 60 < n := by omega
          simp (disch := omega) only [s90_0, s90_4, s90_4b, s90_7, s90_8, s90_9, s90_10, s90_11, s90_11b, s90_14, m90_15, s90_18, m90_19, s90_20, s90_21, s90_25, s90_26, s90_27, s90_28, s90_31, s90_32, s90_33, s90_36, s90_37, s90_39, s90_42, s90_44, s90_45, s90_46, s90_49, s90_51, s90_52, m90_53, s90_56, m90_57, s90_58, s90_59, s90_63, s90_64, Int.toNat_natCast, Int.toNat_natCast, Nat.reduceAdd, Nat.reduceMul, Int.reduceToNat, Int.reduceAdd, Int.reduceLT, Int.reduceLE, Int.reduceEq, Int.reduceNeg, Int.reduceMul, Int.reduceSub, Nat.reduceSub, reduceIte, ite_true, ite_false, and_true, true_and, and_self, c90_1 h97, c0, c1, c2, c3, d1, d2, d3]
        · obtain ⟨G1, h41, w41, f41⟩ := sp41_1 (d := d - 1) (N := N) (L := L) (B := B) (s := s) (n := n) (by omega) h
          refine ⟨G1, ?_, by simp only [Int.toNat_natCast, Int.toNat_natCast, Nat.reduceAdd, Nat.reduceMul, Int.reduceToNat, Int.reduceAdd, Int.reduceLT, Int.reduceLE, Int.reduceEq, Int.reduceNeg, Int.reduceMul, Int.reduceSub, Nat.reduceSub, reduceIte, ite_true, ite_false, and_true, true_and, and_self, c0, c1, c2, c3]; exact w41, f41⟩
          refine e90 (by omega) ?_
          have d1 : ¬ s < 0 := by omega
          have d2 : ¬ 4 < s := by omega
          have d3 : ¬ 60 < n := by omega
          simp (disch := omega) only [s90_0, s90_4, s90_4b, s90_7, s90_8, s90_9, s90_10, s90_11, s90_11b, s90_14, m90_15, s90_18, m90_19, s90_20, s90_21, s90_25, s90_26, s90_27, s90_28, s90_31, s90_32, s90_33, s90_36, s90_37, s90_39, s90_42, s90_44, s90_45, s90_46, s90_49, s90_51, s90_52, m90_53, s90_56, m90_57, s90_58, s90_59, s90_63, s90_64, Int.toNat_natCast, Int.toNat_natCast, Nat.reduceAdd, Nat.reduceMul, Int.reduceToNat, Int.reduceAdd, Int.reduceLT, Int.reduceLE, Int.reduceEq, Int.reduceNeg, Int.reduceMul, Int.reduceSub, Nat.reduceSub, reduceIte, ite_true, ite_false, and_true, true_and, and_self, c90_1 h97, c0, c1, c2, c3, d1, d2, d3, tp1, m90_60_68 h41]
      · refine ⟨G, ?_, by simp only [Int.toNat_natCast, Int.toNat_natCast, Nat.reduceAdd, Nat.reduceMul, Int.reduceToNat, Int.reduceAdd, Int.reduceLT, Int.reduceLE, Int.reduceEq, Int.reduceNeg, Int.reduceMul, Int.reduceSub, Nat.reduceSub, reduceIte, ite_true, ite_false, and_true, true_and, and_self, c0, c2, and_false]; exact h, fun _ _ => rfl⟩
        refine e90 (by omega) ?_
        have d1 : ¬ s < 0 := by omega
        have d2 : ¬ 4 < s := by omega
        have d3 : 60 < n := by omega
        simp (disch := omega) only [s90_0, s90_4, s90_4b, s90_7, s90_8, s90_9, s90_10, s90_11, s90_11b, s90_14, m90_15, s90_18, m90_19, s90_20, s90_21, s90_25, s90_26, s90_27, s90_28, s90_31, s90_32, s90_33, s90_36, s90_37, s90_39, s90_42, s90_44, s90_45, s90_46, s90_49, s90_51, s90_52, m90_53, s90_56, m90_57, s90_58, s90_59, s90_63, s90_64, Int.toNat_natCast, Int.toNat_natCast, Nat.reduceAdd, Nat.reduceMul, Int.reduceToNat, Int.reduceAdd, Int.reduceLT, Int.reduceLE, Int.reduceEq, Int.reduceNeg, Int.reduceMul, Int.reduceSub, Nat.reduceSub, reduceIte, ite_true, ite_false, and_true, true_and, and_self, c90_1 h97, c0, c2, d1, d2, d3, and_false]
    · refine ⟨G, ?_, by simp only [Int.toNat_natCast, Int.toNat_natCast, Nat.reduceAdd, Nat.reduceMul, Int.reduceToNat, Int.reduceAdd, Int.reduceLT, Int.reduceLE, Int.reduceEq, Int.reduceNeg, Int.reduceMul, Int.reduceSub, Nat.reduceSub, reduceIte, ite_true, ite_false, and_true, true_and, and_self, c0, c1, false_and]; exact h, fun _ _ => rfl⟩
      refine e90 (by omega) ?_
      by_cases d1 : s < 0
      · simp (disch := omega) only [s90_0, s90_4, s90_4b, s90_7, s90_8, s90_9, s90_10, s90_11, s90_11b, s90_14, m90_15, s90_18, m90_19, s90_20, s90_21, s90_25, s90_26, s90_27, s90_28, s90_31, s90_32, s90_33, s90_36, s90_37, s90_39, s90_42, s90_44, s90_45, s90_46, s90_49, s90_51, s90_52, m90_53, s90_56, m90_57, s90_58, s90_59, s90_63, s90_64, Int.toNat_natCast, Int.toNat_natCast, Nat.reduceAdd, Nat.reduceMul, Int.reduceToNat, Int.reduceAdd, Int.reduceLT, Int.reduceLE, Int.reduceEq, Int.reduceNeg, Int.reduceMul, Int.reduceSub, Nat.reduceSub, reduceIte, ite_true, ite_false, and_true, true_and, and_self, c90_1 h97, c0, c1, d1, false_and]
      · have d2 : 4 < s := by omega
        simp (disch := omega) only [s90_0, s90_4, s90_4b, s90_7, s90_8, s90_9, s90_10, s90_11, s90_11b, s90_14, m90_15, s90_18, m90_19, s90_20, s90_21, s90_25, s90_26, s90_27, s90_28, s90_31, s90_32, s90_33, s90_36, s90_37, s90_39, s90_42, s90_44, s90_45, s90_46, s90_49, s90_51, s90_52, m90_53, s90_56, m90_57, s90_58, s90_59, s90_63, s90_64, Int.toNat_natCast, Int.toNat_natCast, Nat.reduceAdd, Nat.reduceMul, Int.reduceToNat, Int.reduceAdd, Int.reduceLT, Int.reduceLE, Int.reduceEq, Int.reduceNeg, Int.reduceMul, Int.reduceSub, Nat.reduceSub, reduceIte, ite_true, ite_false, and_true, true_and, and_self, c90_1 h97, c0, c1, d1, d2, false_and]
theorem sp91_1 {d N L : Nat} {i v : Int} {B : q_Bv} {G T : q_Gi} (hd : 4 ≤ d) (h : tv G T) (ho : Tok T) (hi : -2147483648 ≤ i ∧ i ≤ 2147483647) (hv : lr v) : ∃ G', Sp d 91 [.ref 0, vI 1, vI i, vL v] (hp N L B G) (some (vI (x91 T 1 i v).1)) (hp N L B G') ∧ tv G' (x91 T 1 i v).2 ∧ ∀ a, (a < 66 ∨ 77 < a) → G' a = G a := by
  have h97 := sp97 (d := d - 1) (z := 1) (X := hp N L B G) (by omega) (by omega)
  rw [bI_t (by omega)] at h97
  have h42 := sp42_1 (d := d - 1) (N := N) (L := L) (B := B) (by omega) h ho hi
  have h44 := sp44_1 (d := d - 1) (N := N) (L := L) (B := B) (by omega) h ho hv
  have o1 := ho 1 (by omega)
  have w := h
  obtain ⟨h0, h1, h2, h3, h4, h5⟩ := h
  have e : x91 T 1 i v = (if T 0 1 = -1 then (-11, T) else if 0 ≤ i ∧ i < T 1 1 then (1, itS T 1 i.toNat (nrS (T 0 1) v)) else (-13, T)) := rfl
  rw [e]
  by_cases c0 : T 0 1 = -1
  · refine ⟨G, ?_, by rw [if_pos c0]; exact w, fun _ _ => rfl⟩
    refine e91 (by omega) ?_
    simp (disch := omega) only [s91_0, s91_4, s91_4b, s91_7, s91_8, s91_9, m91_10, s91_13, m91_14, s91_15, s91_17, m91_19_66, m91_19_68, m91_19_70, m91_19_72, m91_19_74, m91_19_76, s91_22, s91_23, s91_23b, s91_26, s91_28, s91_29, s91_31, s91_35, s91_35b, s91_38, s91_40, s91_41, m91_43_66, m91_43_68, m91_43_70, m91_43_72, m91_43_74, m91_43_76, s91_46, s91_47, s91_49, m91_53_67, m91_53_69, m91_53_71, m91_53_73, m91_53_75, m91_53_77, s91_54, s91_55, Int.toNat_natCast, Int.toNat_natCast, Nat.reduceAdd, Nat.reduceMul, Int.reduceToNat, Int.reduceAdd, Int.reduceLT, Int.reduceLE, Int.reduceEq, Int.reduceNeg, Int.reduceMul, Int.reduceSub, Nat.reduceSub, reduceIte, ite_true, ite_false, and_true, true_and, and_self, c91_1 h97, c0, tp1, h1.1]
  · by_cases c1 : 0 ≤ i ∧ i < T 1 1
    · refine ⟨ug G 69 i.toNat (nrS (T 0 1) v), ?_, ?_, fun a ha => ug_ne (by omega)⟩
      · refine e91 (by omega) ?_
        simp (disch := omega) only [s91_0, s91_4, s91_4b, s91_7, s91_8, s91_9, m91_10, s91_13, m91_14, s91_15, s91_17, m91_19_66, m91_19_68, m91_19_70, m91_19_72, m91_19_74, m91_19_76, s91_22, s91_23, s91_23b, s91_26, s91_28, s91_29, s91_31, s91_35, s91_35b, s91_38, s91_40, s91_41, m91_43_66, m91_43_68, m91_43_70, m91_43_72, m91_43_74, m91_43_76, s91_46, s91_47, s91_49, m91_53_67, m91_53_69, m91_53_71, m91_53_73, m91_53_75, m91_53_77, s91_54, s91_55, Int.toNat_natCast, Int.toNat_natCast, Nat.reduceAdd, Nat.reduceMul, Int.reduceToNat, Int.reduceAdd, Int.reduceLT, Int.reduceLE, Int.reduceEq, Int.reduceNeg, Int.reduceMul, Int.reduceSub, Nat.reduceSub, reduceIte, ite_true, ite_false, and_true, true_and, and_self, c91_1 h97, c0, c1, tp1, h1.1, m91_32_68 h42, m91_50_68 h44]
      · rw [if_neg c0, if_pos c1]
        show tv _ (itS T 1 i.toNat (nrS (T 0 1) v))
        refine tv_upd1 w ⟨?_, ?_, ?_⟩ (fun a _ h2 => ug_ne h2) (fun k hk => ⟨?_, ?_, ?_⟩)
        · rw [ug_ne (by omega)]; exact h1.1
        · rw [ug_ne (by omega)]; exact h1.2.1
        · intro k hk
          unfold itS
          by_cases e2 : k = i.toNat
          · rw [e2, ug_at, if_pos ⟨rfl, rfl⟩]
          · rw [ug_k e2, if_neg (by omega)]; exact h1.2.2 k hk
        · unfold itS; rw [if_neg (by omega)]
        · unfold itS; rw [if_neg (by omega)]
        · intro m hm; unfold itS; rw [if_neg (by omega)]
    · refine ⟨G, ?_, by rw [if_neg c0, if_neg c1]; exact w, fun _ _ => rfl⟩
      refine e91 (by omega) ?_
      simp (disch := omega) only [s91_0, s91_4, s91_4b, s91_7, s91_8, s91_9, m91_10, s91_13, m91_14, s91_15, s91_17, m91_19_66, m91_19_68, m91_19_70, m91_19_72, m91_19_74, m91_19_76, s91_22, s91_23, s91_23b, s91_26, s91_28, s91_29, s91_31, s91_35, s91_35b, s91_38, s91_40, s91_41, m91_43_66, m91_43_68, m91_43_70, m91_43_72, m91_43_74, m91_43_76, s91_46, s91_47, s91_49, m91_53_67, m91_53_69, m91_53_71, m91_53_73, m91_53_75, m91_53_77, s91_54, s91_55, Int.toNat_natCast, Int.toNat_natCast, Nat.reduceAdd, Nat.reduceMul, Int.reduceToNat, Int.reduceAdd, Int.reduceLT, Int.reduceLE, Int.reduceEq, Int.reduceNeg, Int.reduceMul, Int.reduceSub, Nat.reduceSub, reduceIte, ite_true, ite_false, and_true, true_and, and_self, c91_1 h97, c0, c1, tp1, h1.1, m91_32_68 h42]
theorem sp92_1 {d N L : Nat} {i : Int} {B : q_Bv} {G T : q_Gi} (hd : 4 ≤ d) (h : tv G T) (ho : Tok T) (hi : -2147483648 ≤ i ∧ i ≤ 2147483647) : Sp d 92 [.ref 0, vI 1, vI i] (hp N L B G) (some (vL (r92 T 1 i))) (hp N L B G) := by
  have h97 := sp97 (d := d - 1) (z := 1) (X := hp N L B G) (by omega) (by omega)
  rw [bI_t (by omega)] at h97
  have h42 := sp42_1 (d := d - 1) (N := N) (L := L) (B := B) (by omega) h ho hi
  have o1 := ho 1 (by omega)
  obtain ⟨h0, h1, h2, h3, h4, h5⟩ := h
  refine e92 (by omega) ?_
  by_cases c1 : 0 ≤ i ∧ i < T 1 1
  · have e : r92 T 1 i = T 3 i.toNat := by unfold r92; exact if_pos ⟨by decide, c1⟩
    rw [e]
    simp (disch := omega) only [s92_0, s92_4, s92_4b, s92_7, m92_8, s92_11, m92_12, s92_13, s92_17, s92_17b, s92_20, s92_23, s92_24, m92_25, s92_28, m92_29, m92_30_66, m92_30_68, m92_30_70, m92_30_72, m92_30_74, m92_30_76, s92_33, m92_34_67, m92_34_69, m92_34_71, m92_34_73, m92_34_75, m92_34_77, s92_35, Int.toNat_natCast, Int.toNat_natCast, Nat.reduceAdd, Nat.reduceMul, Int.reduceToNat, Int.reduceAdd, Int.reduceLT, Int.reduceLE, Int.reduceEq, Int.reduceNeg, Int.reduceMul, Int.reduceSub, Nat.reduceSub, reduceIte, ite_true, ite_false, and_true, true_and, and_self, c92_1 h97, c1, tp1, m92_14_68 h42, h1.2.2 i.toNat (by omega)]
  · have e : r92 T 1 i = -9223372036854775808 := by unfold r92; exact if_neg (fun hh => c1 hh.2)
    rw [e]
    simp (disch := omega) only [s92_0, s92_4, s92_4b, s92_7, m92_8, s92_11, m92_12, s92_13, s92_17, s92_17b, s92_20, s92_23, s92_24, m92_25, s92_28, m92_29, m92_30_66, m92_30_68, m92_30_70, m92_30_72, m92_30_74, m92_30_76, s92_33, m92_34_67, m92_34_69, m92_34_71, m92_34_73, m92_34_75, m92_34_77, s92_35, Int.toNat_natCast, Int.toNat_natCast, Nat.reduceAdd, Nat.reduceMul, Int.reduceToNat, Int.reduceAdd, Int.reduceLT, Int.reduceLE, Int.reduceEq, Int.reduceNeg, Int.reduceMul, Int.reduceSub, Nat.reduceSub, reduceIte, ite_true, ite_false, and_true, true_and, and_self, c92_1 h97, c1, tp1, m92_14_68 h42]
theorem sp90_2 {d N L : Nat} {s n : Int} {B : q_Bv} {G T : q_Gi} (hd : 4 ≤ d) (h : tv G T) (hs : -2147483648 ≤ s ∧ s ≤ 2147483647) (hn : -2147483648 ≤ n ∧ n ≤ 2147483647) : ∃ G', Sp d 90 [.ref 0, vI 2, vI s, vI n] (hp N L B G) (some (vI (x90 T 2 s n).1)) (hp N L B G') ∧ tv G' (x90 T 2 s n).2 ∧ ∀ a, (a < 66 ∨ 77 < a) → G' a = G a := by
  have h97 := sp97 (d := d - 1) (z := 2) (X := hp N L B G) (by omega) (by omega)
  rw [bI_t (by omega)] at h97
  have e : x90 T 2 s n = (if s = -1 then (1, becS T 2 (-1) 0) else if (0 ≤ s ∧ s ≤ 4) ∧ n ≤ 60 then (if n < 0 then (-14, T) else (1, becS T 2 s n)) else (-2, T)) := rfl
  rw [e]
  by_cases c0 : s = -1
  · obtain ⟨G1, h41, w41, f41⟩ := sp41_2 (d := d - 1) (N := N) (L := L) (B := B) (s := -1) (n := 0) (by omega) h
    refine ⟨G1, ?_, by rw [if_pos c0]; exact w41, f41⟩
    refine e90 (by omega) ?_
    simp (disch := omega) only [s90_0, s90_4, s90_4b, s90_7, s90_8, s90_9, s90_10, s90_11, s90_11b, s90_14, m90_15, s90_18, m90_19, s90_20, s90_21, s90_25, s90_26, s90_27, s90_28, s90_31, s90_32, s90_33, s90_36, s90_37, s90_39, s90_42, s90_44, s90_45, s90_46, s90_49, s90_51, s90_52, m90_53, s90_56, m90_57, s90_58, s90_59, s90_63, s90_64, Int.toNat_natCast, Int.toNat_natCast, Nat.reduceAdd, Nat.reduceMul, Int.reduceToNat, Int.reduceAdd, Int.reduceLT, Int.reduceLE, Int.reduceEq, Int.reduceNeg, Int.reduceMul, Int.reduceSub, Nat.reduceSub, reduceIte, ite_true, ite_false, and_true, true_and, and_self, c90_1 h97, c0, tp2, m90_22_70 h41]
  · by_cases c1 : 0 ≤ s ∧ s ≤ 4
    · by_cases c2 : n ≤ 60
      · by_cases c3 : n < 0
        · refine ⟨G, ?_, by simp only [Int.toNat_natCast, Int.toNat_natCast, Nat.reduceAdd, Nat.reduceMul, Int.reduceToNat, Int.reduceAdd, Int.reduceLT, Int.reduceLE, Int.reduceEq, Int.reduceNeg, Int.reduceMul, Int.reduceSub, Nat.reduceSub, reduceIte, ite_true, ite_false, and_true, true_and, and_self, c0, c1, c2, c3]; exact h, fun _ _ => rfl⟩
          refine e90 (by omega) ?_
          have d1 : ¬ s < 0 := by omega
          have d2 : ¬ 4 < s := by omega
          have d3 : ¬ 60 < n := by omega
          simp (disch := omega) only [s90_0, s90_4, s90_4b, s90_7, s90_8, s90_9, s90_10, s90_11, s90_11b, s90_14, m90_15, s90_18, m90_19, s90_20, s90_21, s90_25, s90_26, s90_27, s90_28, s90_31, s90_32, s90_33, s90_36, s90_37, s90_39, s90_42, s90_44, s90_45, s90_46, s90_49, s90_51, s90_52, m90_53, s90_56, m90_57, s90_58, s90_59, s90_63, s90_64, Int.toNat_natCast, Int.toNat_natCast, Nat.reduceAdd, Nat.reduceMul, Int.reduceToNat, Int.reduceAdd, Int.reduceLT, Int.reduceLE, Int.reduceEq, Int.reduceNeg, Int.reduceMul, Int.reduceSub, Nat.reduceSub, reduceIte, ite_true, ite_false, and_true, true_and, and_self, c90_1 h97, c0, c1, c2, c3, d1, d2, d3]
        · obtain ⟨G1, h41, w41, f41⟩ := sp41_2 (d := d - 1) (N := N) (L := L) (B := B) (s := s) (n := n) (by omega) h
          refine ⟨G1, ?_, by simp only [Int.toNat_natCast, Int.toNat_natCast, Nat.reduceAdd, Nat.reduceMul, Int.reduceToNat, Int.reduceAdd, Int.reduceLT, Int.reduceLE, Int.reduceEq, Int.reduceNeg, Int.reduceMul, Int.reduceSub, Nat.reduceSub, reduceIte, ite_true, ite_false, and_true, true_and, and_self, c0, c1, c2, c3]; exact w41, f41⟩
          refine e90 (by omega) ?_
          have d1 : ¬ s < 0 := by omega
          have d2 : ¬ 4 < s := by omega
          have d3 : ¬ 60 < n := by omega
          simp (disch := omega) only [s90_0, s90_4, s90_4b, s90_7, s90_8, s90_9, s90_10, s90_11, s90_11b, s90_14, m90_15, s90_18, m90_19, s90_20, s90_21, s90_25, s90_26, s90_27, s90_28, s90_31, s90_32, s90_33, s90_36, s90_37, s90_39, s90_42, s90_44, s90_45, s90_46, s90_49, s90_51, s90_52, m90_53, s90_56, m90_57, s90_58, s90_59, s90_63, s90_64, Int.toNat_natCast, Int.toNat_natCast, Nat.reduceAdd, Nat.reduceMul, Int.reduceToNat, Int.reduceAdd, Int.reduceLT, Int.reduceLE, Int.reduceEq, Int.reduceNeg, Int.reduceMul, Int.reduceSub, Nat.reduceSub, reduceIte, ite_true, ite_false, and_true, true_and, and_self, c90_1 h97, c0, c1, c2, c3, d1, d2, d3, tp2, m90_60_70 h41]
      · refine ⟨G, ?_, by simp only [Int.toNat_natCast, Int.toNat_natCast, Nat.reduceAdd, Nat.reduceMul, Int.reduceToNat, Int.reduceAdd, Int.reduceLT, Int.reduceLE, Int.reduceEq, Int.reduceNeg, Int.reduceMul, Int.reduceSub, Nat.reduceSub, reduceIte, ite_true, ite_false, and_true, true_and, and_self, c0, c2, and_false]; exact h, fun _ _ => rfl⟩
        refine e90 (by omega) ?_
        have d1 : ¬ s < 0 := by omega
        have d2 : ¬ 4 < s := by omega
        have d3 : 60 < n := by omega
        simp (disch := omega) only [s90_0, s90_4, s90_4b, s90_7, s90_8, s90_9, s90_10, s90_11, s90_11b, s90_14, m90_15, s90_18, m90_19, s90_20, s90_21, s90_25, s90_26, s90_27, s90_28, s90_31, s90_32, s90_33, s90_36, s90_37, s90_39, s90_42, s90_44, s90_45, s90_46, s90_49, s90_51, s90_52, m90_53, s90_56, m90_57, s90_58, s90_59, s90_63, s90_64, Int.toNat_natCast, Int.toNat_natCast, Nat.reduceAdd, Nat.reduceMul, Int.reduceToNat, Int.reduceAdd, Int.reduceLT, Int.reduceLE, Int.reduceEq, Int.reduceNeg, Int.reduceMul, Int.reduceSub, Nat.reduceSub, reduceIte, ite_true, ite_false, and_true, true_and, and_self, c90_1 h97, c0, c2, d1, d2, d3, and_false]
    · refine ⟨G, ?_, by simp only [Int.toNat_natCast, Int.toNat_natCast, Nat.reduceAdd, Nat.reduceMul, Int.reduceToNat, Int.reduceAdd, Int.reduceLT, Int.reduceLE, Int.reduceEq, Int.reduceNeg, Int.reduceMul, Int.reduceSub, Nat.reduceSub, reduceIte, ite_true, ite_false, and_true, true_and, and_self, c0, c1, false_and]; exact h, fun _ _ => rfl⟩
      refine e90 (by omega) ?_
      by_cases d1 : s < 0
      · simp (disch := omega) only [s90_0, s90_4, s90_4b, s90_7, s90_8, s90_9, s90_10, s90_11, s90_11b, s90_14, m90_15, s90_18, m90_19, s90_20, s90_21, s90_25, s90_26, s90_27, s90_28, s90_31, s90_32, s90_33, s90_36, s90_37, s90_39, s90_42, s90_44, s90_45, s90_46, s90_49, s90_51, s90_52, m90_53, s90_56, m90_57, s90_58, s90_59, s90_63, s90_64, Int.toNat_natCast, Int.toNat_natCast, Nat.reduceAdd, Nat.reduceMul, Int.reduceToNat, Int.reduceAdd, Int.reduceLT, Int.reduceLE, Int.reduceEq, Int.reduceNeg, Int.reduceMul, Int.reduceSub, Nat.reduceSub, reduceIte, ite_true, ite_false, and_true, true_and, and_self, c90_1 h97, c0, c1, d1, false_and]
      · have d2 : 4 < s := by omega
        simp (disch := omega) only [s90_0, s90_4, s90_4b, s90_7, s90_8, s90_9, s90_10, s90_11, s90_11b, s90_14, m90_15, s90_18, m90_19, s90_20, s90_21, s90_25, s90_26, s90_27, s90_28, s90_31, s90_32, s90_33, s90_36, s90_37, s90_39, s90_42, s90_44, s90_45, s90_46, s90_49, s90_51, s90_52, m90_53, s90_56, m90_57, s90_58, s90_59, s90_63, s90_64, Int.toNat_natCast, Int.toNat_natCast, Nat.reduceAdd, Nat.reduceMul, Int.reduceToNat, Int.reduceAdd, Int.reduceLT, Int.reduceLE, Int.reduceEq, Int.reduceNeg, Int.reduceMul, Int.reduceSub, Nat.reduceSub, reduceIte, ite_true, ite_false, and_true, true_and, and_self, c90_1 h97, c0, c1, d1, d2, false_and]
theorem sp91_2 {d N L : Nat} {i v : Int} {B : q_Bv} {G T : q_Gi} (hd : 4 ≤ d) (h : tv G T) (ho : Tok T) (hi : -2147483648 ≤ i ∧ i ≤ 2147483647) (hv : lr v) : ∃ G', Sp d 91 [.ref 0, vI 2, vI i, vL v] (hp N L B G) (some (vI (x91 T 2 i v).1)) (hp N L B G') ∧ tv G' (x91 T 2 i v).2 ∧ ∀ a, (a < 66 ∨ 77 < a) → G' a = G a := by
  have h97 := sp97 (d := d - 1) (z := 2) (X := hp N L B G) (by omega) (by omega)
  rw [bI_t (by omega)] at h97
  have h42 := sp42_2 (d := d - 1) (N := N) (L := L) (B := B) (by omega) h ho hi
  have h44 := sp44_2 (d := d - 1) (N := N) (L := L) (B := B) (by omega) h ho hv
  have o1 := ho 2 (by omega)
  have w := h
  obtain ⟨h0, h1, h2, h3, h4, h5⟩ := h
  have e : x91 T 2 i v = (if T 0 2 = -1 then (-11, T) else if 0 ≤ i ∧ i < T 1 2 then (1, itS T 2 i.toNat (nrS (T 0 2) v)) else (-13, T)) := rfl
  rw [e]
  by_cases c0 : T 0 2 = -1
  · refine ⟨G, ?_, by rw [if_pos c0]; exact w, fun _ _ => rfl⟩
    refine e91 (by omega) ?_
    simp (disch := omega) only [s91_0, s91_4, s91_4b, s91_7, s91_8, s91_9, m91_10, s91_13, m91_14, s91_15, s91_17, m91_19_66, m91_19_68, m91_19_70, m91_19_72, m91_19_74, m91_19_76, s91_22, s91_23, s91_23b, s91_26, s91_28, s91_29, s91_31, s91_35, s91_35b, s91_38, s91_40, s91_41, m91_43_66, m91_43_68, m91_43_70, m91_43_72, m91_43_74, m91_43_76, s91_46, s91_47, s91_49, m91_53_67, m91_53_69, m91_53_71, m91_53_73, m91_53_75, m91_53_77, s91_54, s91_55, Int.toNat_natCast, Int.toNat_natCast, Nat.reduceAdd, Nat.reduceMul, Int.reduceToNat, Int.reduceAdd, Int.reduceLT, Int.reduceLE, Int.reduceEq, Int.reduceNeg, Int.reduceMul, Int.reduceSub, Nat.reduceSub, reduceIte, ite_true, ite_false, and_true, true_and, and_self, c91_1 h97, c0, tp2, h2.1]
  · by_cases c1 : 0 ≤ i ∧ i < T 1 2
    · refine ⟨ug G 71 i.toNat (nrS (T 0 2) v), ?_, ?_, fun a ha => ug_ne (by omega)⟩
      · refine e91 (by omega) ?_
        simp (disch := omega) only [s91_0, s91_4, s91_4b, s91_7, s91_8, s91_9, m91_10, s91_13, m91_14, s91_15, s91_17, m91_19_66, m91_19_68, m91_19_70, m91_19_72, m91_19_74, m91_19_76, s91_22, s91_23, s91_23b, s91_26, s91_28, s91_29, s91_31, s91_35, s91_35b, s91_38, s91_40, s91_41, m91_43_66, m91_43_68, m91_43_70, m91_43_72, m91_43_74, m91_43_76, s91_46, s91_47, s91_49, m91_53_67, m91_53_69, m91_53_71, m91_53_73, m91_53_75, m91_53_77, s91_54, s91_55, Int.toNat_natCast, Int.toNat_natCast, Nat.reduceAdd, Nat.reduceMul, Int.reduceToNat, Int.reduceAdd, Int.reduceLT, Int.reduceLE, Int.reduceEq, Int.reduceNeg, Int.reduceMul, Int.reduceSub, Nat.reduceSub, reduceIte, ite_true, ite_false, and_true, true_and, and_self, c91_1 h97, c0, c1, tp2, h2.1, m91_32_70 h42, m91_50_70 h44]
      · rw [if_neg c0, if_pos c1]
        show tv _ (itS T 2 i.toNat (nrS (T 0 2) v))
        refine tv_upd2 w ⟨?_, ?_, ?_⟩ (fun a _ h2 => ug_ne h2) (fun k hk => ⟨?_, ?_, ?_⟩)
        · rw [ug_ne (by omega)]; exact h2.1
        · rw [ug_ne (by omega)]; exact h2.2.1
        · intro k hk
          unfold itS
          by_cases e2 : k = i.toNat
          · rw [e2, ug_at, if_pos ⟨rfl, rfl⟩]
          · rw [ug_k e2, if_neg (by omega)]; exact h2.2.2 k hk
        · unfold itS; rw [if_neg (by omega)]
        · unfold itS; rw [if_neg (by omega)]
        · intro m hm; unfold itS; rw [if_neg (by omega)]
    · refine ⟨G, ?_, by rw [if_neg c0, if_neg c1]; exact w, fun _ _ => rfl⟩
      refine e91 (by omega) ?_
      simp (disch := omega) only [s91_0, s91_4, s91_4b, s91_7, s91_8, s91_9, m91_10, s91_13, m91_14, s91_15, s91_17, m91_19_66, m91_19_68, m91_19_70, m91_19_72, m91_19_74, m91_19_76, s91_22, s91_23, s91_23b, s91_26, s91_28, s91_29, s91_31, s91_35, s91_35b, s91_38, s91_40, s91_41, m91_43_66, m91_43_68, m91_43_70, m91_43_72, m91_43_74, m91_43_76, s91_46, s91_47, s91_49, m91_53_67, m91_53_69, m91_53_71, m91_53_73, m91_53_75, m91_53_77, s91_54, s91_55, Int.toNat_natCast, Int.toNat_natCast, Nat.reduceAdd, Nat.reduceMul, Int.reduceToNat, Int.reduceAdd, Int.reduceLT, Int.reduceLE, Int.reduceEq, Int.reduceNeg, Int.reduceMul, Int.reduceSub, Nat.reduceSub, reduceIte, ite_true, ite_false, and_true, true_and, and_self, c91_1 h97, c0, c1, tp2, h2.1, m91_32_70 h42]
theorem sp92_2 {d N L : Nat} {i : Int} {B : q_Bv} {G T : q_Gi} (hd : 4 ≤ d) (h : tv G T) (ho : Tok T) (hi : -2147483648 ≤ i ∧ i ≤ 2147483647) : Sp d 92 [.ref 0, vI 2, vI i] (hp N L B G) (some (vL (r92 T 2 i))) (hp N L B G) := by
  have h97 := sp97 (d := d - 1) (z := 2) (X := hp N L B G) (by omega) (by omega)
  rw [bI_t (by omega)] at h97
  have h42 := sp42_2 (d := d - 1) (N := N) (L := L) (B := B) (by omega) h ho hi
  have o1 := ho 2 (by omega)
  obtain ⟨h0, h1, h2, h3, h4, h5⟩ := h
  refine e92 (by omega) ?_
  by_cases c1 : 0 ≤ i ∧ i < T 1 2
  · have e : r92 T 2 i = T 4 i.toNat := by unfold r92; exact if_pos ⟨by decide, c1⟩
    rw [e]
    simp (disch := omega) only [s92_0, s92_4, s92_4b, s92_7, m92_8, s92_11, m92_12, s92_13, s92_17, s92_17b, s92_20, s92_23, s92_24, m92_25, s92_28, m92_29, m92_30_66, m92_30_68, m92_30_70, m92_30_72, m92_30_74, m92_30_76, s92_33, m92_34_67, m92_34_69, m92_34_71, m92_34_73, m92_34_75, m92_34_77, s92_35, Int.toNat_natCast, Int.toNat_natCast, Nat.reduceAdd, Nat.reduceMul, Int.reduceToNat, Int.reduceAdd, Int.reduceLT, Int.reduceLE, Int.reduceEq, Int.reduceNeg, Int.reduceMul, Int.reduceSub, Nat.reduceSub, reduceIte, ite_true, ite_false, and_true, true_and, and_self, c92_1 h97, c1, tp2, m92_14_70 h42, h2.2.2 i.toNat (by omega)]
  · have e : r92 T 2 i = -9223372036854775808 := by unfold r92; exact if_neg (fun hh => c1 hh.2)
    rw [e]
    simp (disch := omega) only [s92_0, s92_4, s92_4b, s92_7, m92_8, s92_11, m92_12, s92_13, s92_17, s92_17b, s92_20, s92_23, s92_24, m92_25, s92_28, m92_29, m92_30_66, m92_30_68, m92_30_70, m92_30_72, m92_30_74, m92_30_76, s92_33, m92_34_67, m92_34_69, m92_34_71, m92_34_73, m92_34_75, m92_34_77, s92_35, Int.toNat_natCast, Int.toNat_natCast, Nat.reduceAdd, Nat.reduceMul, Int.reduceToNat, Int.reduceAdd, Int.reduceLT, Int.reduceLE, Int.reduceEq, Int.reduceNeg, Int.reduceMul, Int.reduceSub, Nat.reduceSub, reduceIte, ite_true, ite_false, and_true, true_and, and_self, c92_1 h97, c1, tp2, m92_14_70 h42]
theorem sp90_3 {d N L : Nat} {s n : Int} {B : q_Bv} {G T : q_Gi} (hd : 4 ≤ d) (h : tv G T) (hs : -2147483648 ≤ s ∧ s ≤ 2147483647) (hn : -2147483648 ≤ n ∧ n ≤ 2147483647) : ∃ G', Sp d 90 [.ref 0, vI 3, vI s, vI n] (hp N L B G) (some (vI (x90 T 3 s n).1)) (hp N L B G') ∧ tv G' (x90 T 3 s n).2 ∧ ∀ a, (a < 66 ∨ 77 < a) → G' a = G a := by
  have h97 := sp97 (d := d - 1) (z := 3) (X := hp N L B G) (by omega) (by omega)
  rw [bI_t (by omega)] at h97
  have e : x90 T 3 s n = (if s = -1 then (1, becS T 3 (-1) 0) else if (0 ≤ s ∧ s ≤ 4) ∧ n ≤ 60 then (if n < 0 then (-14, T) else (1, becS T 3 s n)) else (-2, T)) := rfl
  rw [e]
  by_cases c0 : s = -1
  · obtain ⟨G1, h41, w41, f41⟩ := sp41_3 (d := d - 1) (N := N) (L := L) (B := B) (s := -1) (n := 0) (by omega) h
    refine ⟨G1, ?_, by rw [if_pos c0]; exact w41, f41⟩
    refine e90 (by omega) ?_
    simp (disch := omega) only [s90_0, s90_4, s90_4b, s90_7, s90_8, s90_9, s90_10, s90_11, s90_11b, s90_14, m90_15, s90_18, m90_19, s90_20, s90_21, s90_25, s90_26, s90_27, s90_28, s90_31, s90_32, s90_33, s90_36, s90_37, s90_39, s90_42, s90_44, s90_45, s90_46, s90_49, s90_51, s90_52, m90_53, s90_56, m90_57, s90_58, s90_59, s90_63, s90_64, Int.toNat_natCast, Int.toNat_natCast, Nat.reduceAdd, Nat.reduceMul, Int.reduceToNat, Int.reduceAdd, Int.reduceLT, Int.reduceLE, Int.reduceEq, Int.reduceNeg, Int.reduceMul, Int.reduceSub, Nat.reduceSub, reduceIte, ite_true, ite_false, and_true, true_and, and_self, c90_1 h97, c0, tp3, m90_22_72 h41]
  · by_cases c1 : 0 ≤ s ∧ s ≤ 4
    · by_cases c2 : n ≤ 60
      · by_cases c3 : n < 0
        · refine ⟨G, ?_, by simp only [Int.toNat_natCast, Int.toNat_natCast, Nat.reduceAdd, Nat.reduceMul, Int.reduceToNat, Int.reduceAdd, Int.reduceLT, Int.reduceLE, Int.reduceEq, Int.reduceNeg, Int.reduceMul, Int.reduceSub, Nat.reduceSub, reduceIte, ite_true, ite_false, and_true, true_and, and_self, c0, c1, c2, c3]; exact h, fun _ _ => rfl⟩
          refine e90 (by omega) ?_
          have d1 : ¬ s < 0 := by omega
          have d2 : ¬ 4 < s := by omega
          have d3 : ¬ 60 < n := by omega
          simp (disch := omega) only [s90_0, s90_4, s90_4b, s90_7, s90_8, s90_9, s90_10, s90_11, s90_11b, s90_14, m90_15, s90_18, m90_19, s90_20, s90_21, s90_25, s90_26, s90_27, s90_28, s90_31, s90_32, s90_33, s90_36, s90_37, s90_39, s90_42, s90_44, s90_45, s90_46, s90_49, s90_51, s90_52, m90_53, s90_56, m90_57, s90_58, s90_59, s90_63, s90_64, Int.toNat_natCast, Int.toNat_natCast, Nat.reduceAdd, Nat.reduceMul, Int.reduceToNat, Int.reduceAdd, Int.reduceLT, Int.reduceLE, Int.reduceEq, Int.reduceNeg, Int.reduceMul, Int.reduceSub, Nat.reduceSub, reduceIte, ite_true, ite_false, and_true, true_and, and_self, c90_1 h97, c0, c1, c2, c3, d1, d2, d3]
        · obtain ⟨G1, h41, w41, f41⟩ := sp41_3 (d := d - 1) (N := N) (L := L) (B := B) (s := s) (n := n) (by omega) h
          refine ⟨G1, ?_, by simp only [Int.toNat_natCast, Int.toNat_natCast, Nat.reduceAdd, Nat.reduceMul, Int.reduceToNat, Int.reduceAdd, Int.reduceLT, Int.reduceLE, Int.reduceEq, Int.reduceNeg, Int.reduceMul, Int.reduceSub, Nat.reduceSub, reduceIte, ite_true, ite_false, and_true, true_and, and_self, c0, c1, c2, c3]; exact w41, f41⟩
          refine e90 (by omega) ?_
          have d1 : ¬ s < 0 := by omega
          have d2 : ¬ 4 < s := by omega
          have d3 : ¬ 60 < n := by omega
          simp (disch := omega) only [s90_0, s90_4, s90_4b, s90_7, s90_8, s90_9, s90_10, s90_11, s90_11b, s90_14, m90_15, s90_18, m90_19, s90_20, s90_21, s90_25, s90_26, s90_27, s90_28, s90_31, s90_32, s90_33, s90_36, s90_37, s90_39, s90_42, s90_44, s90_45, s90_46, s90_49, s90_51, s90_52, m90_53, s90_56, m90_57, s90_58, s90_59, s90_63, s90_64, Int.toNat_natCast, Int.toNat_natCast, Nat.reduceAdd, Nat.reduceMul, Int.reduceToNat, Int.reduceAdd, Int.reduceLT, Int.reduceLE, Int.reduceEq, Int.reduceNeg, Int.reduceMul, Int.reduceSub, Nat.reduceSub, reduceIte, ite_true, ite_false, and_true, true_and, and_self, c90_1 h97, c0, c1, c2, c3, d1, d2, d3, tp3, m90_60_72 h41]
      · refine ⟨G, ?_, by simp only [Int.toNat_natCast, Int.toNat_natCast, Nat.reduceAdd, Nat.reduceMul, Int.reduceToNat, Int.reduceAdd, Int.reduceLT, Int.reduceLE, Int.reduceEq, Int.reduceNeg, Int.reduceMul, Int.reduceSub, Nat.reduceSub, reduceIte, ite_true, ite_false, and_true, true_and, and_self, c0, c2, and_false]; exact h, fun _ _ => rfl⟩
        refine e90 (by omega) ?_
        have d1 : ¬ s < 0 := by omega
        have d2 : ¬ 4 < s := by omega
        have d3 : 60 < n := by omega
        simp (disch := omega) only [s90_0, s90_4, s90_4b, s90_7, s90_8, s90_9, s90_10, s90_11, s90_11b, s90_14, m90_15, s90_18, m90_19, s90_20, s90_21, s90_25, s90_26, s90_27, s90_28, s90_31, s90_32, s90_33, s90_36, s90_37, s90_39, s90_42, s90_44, s90_45, s90_46, s90_49, s90_51, s90_52, m90_53, s90_56, m90_57, s90_58, s90_59, s90_63, s90_64, Int.toNat_natCast, Int.toNat_natCast, Nat.reduceAdd, Nat.reduceMul, Int.reduceToNat, Int.reduceAdd, Int.reduceLT, Int.reduceLE, Int.reduceEq, Int.reduceNeg, Int.reduceMul, Int.reduceSub, Nat.reduceSub, reduceIte, ite_true, ite_false, and_true, true_and, and_self, c90_1 h97, c0, c2, d1, d2, d3, and_false]
    · refine ⟨G, ?_, by simp only [Int.toNat_natCast, Int.toNat_natCast, Nat.reduceAdd, Nat.reduceMul, Int.reduceToNat, Int.reduceAdd, Int.reduceLT, Int.reduceLE, Int.reduceEq, Int.reduceNeg, Int.reduceMul, Int.reduceSub, Nat.reduceSub, reduceIte, ite_true, ite_false, and_true, true_and, and_self, c0, c1, false_and]; exact h, fun _ _ => rfl⟩
      refine e90 (by omega) ?_
      by_cases d1 : s < 0
      · simp (disch := omega) only [s90_0, s90_4, s90_4b, s90_7, s90_8, s90_9, s90_10, s90_11, s90_11b, s90_14, m90_15, s90_18, m90_19, s90_20, s90_21, s90_25, s90_26, s90_27, s90_28, s90_31, s90_32, s90_33, s90_36, s90_37, s90_39, s90_42, s90_44, s90_45, s90_46, s90_49, s90_51, s90_52, m90_53, s90_56, m90_57, s90_58, s90_59, s90_63, s90_64, Int.toNat_natCast, Int.toNat_natCast, Nat.reduceAdd, Nat.reduceMul, Int.reduceToNat, Int.reduceAdd, Int.reduceLT, Int.reduceLE, Int.reduceEq, Int.reduceNeg, Int.reduceMul, Int.reduceSub, Nat.reduceSub, reduceIte, ite_true, ite_false, and_true, true_and, and_self, c90_1 h97, c0, c1, d1, false_and]
      · have d2 : 4 < s := by omega
        simp (disch := omega) only [s90_0, s90_4, s90_4b, s90_7, s90_8, s90_9, s90_10, s90_11, s90_11b, s90_14, m90_15, s90_18, m90_19, s90_20, s90_21, s90_25, s90_26, s90_27, s90_28, s90_31, s90_32, s90_33, s90_36, s90_37, s90_39, s90_42, s90_44, s90_45, s90_46, s90_49, s90_51, s90_52, m90_53, s90_56, m90_57, s90_58, s90_59, s90_63, s90_64, Int.toNat_natCast, Int.toNat_natCast, Nat.reduceAdd, Nat.reduceMul, Int.reduceToNat, Int.reduceAdd, Int.reduceLT, Int.reduceLE, Int.reduceEq, Int.reduceNeg, Int.reduceMul, Int.reduceSub, Nat.reduceSub, reduceIte, ite_true, ite_false, and_true, true_and, and_self, c90_1 h97, c0, c1, d1, d2, false_and]
theorem sp91_3 {d N L : Nat} {i v : Int} {B : q_Bv} {G T : q_Gi} (hd : 4 ≤ d) (h : tv G T) (ho : Tok T) (hi : -2147483648 ≤ i ∧ i ≤ 2147483647) (hv : lr v) : ∃ G', Sp d 91 [.ref 0, vI 3, vI i, vL v] (hp N L B G) (some (vI (x91 T 3 i v).1)) (hp N L B G') ∧ tv G' (x91 T 3 i v).2 ∧ ∀ a, (a < 66 ∨ 77 < a) → G' a = G a := by
  have h97 := sp97 (d := d - 1) (z := 3) (X := hp N L B G) (by omega) (by omega)
  rw [bI_t (by omega)] at h97
  have h42 := sp42_3 (d := d - 1) (N := N) (L := L) (B := B) (by omega) h ho hi
  have h44 := sp44_3 (d := d - 1) (N := N) (L := L) (B := B) (by omega) h ho hv
  have o1 := ho 3 (by omega)
  have w := h
  obtain ⟨h0, h1, h2, h3, h4, h5⟩ := h
  have e : x91 T 3 i v = (if T 0 3 = -1 then (-11, T) else if 0 ≤ i ∧ i < T 1 3 then (1, itS T 3 i.toNat (nrS (T 0 3) v)) else (-13, T)) := rfl
  rw [e]
  by_cases c0 : T 0 3 = -1
  · refine ⟨G, ?_, by rw [if_pos c0]; exact w, fun _ _ => rfl⟩
    refine e91 (by omega) ?_
    simp (disch := omega) only [s91_0, s91_4, s91_4b, s91_7, s91_8, s91_9, m91_10, s91_13, m91_14, s91_15, s91_17, m91_19_66, m91_19_68, m91_19_70, m91_19_72, m91_19_74, m91_19_76, s91_22, s91_23, s91_23b, s91_26, s91_28, s91_29, s91_31, s91_35, s91_35b, s91_38, s91_40, s91_41, m91_43_66, m91_43_68, m91_43_70, m91_43_72, m91_43_74, m91_43_76, s91_46, s91_47, s91_49, m91_53_67, m91_53_69, m91_53_71, m91_53_73, m91_53_75, m91_53_77, s91_54, s91_55, Int.toNat_natCast, Int.toNat_natCast, Nat.reduceAdd, Nat.reduceMul, Int.reduceToNat, Int.reduceAdd, Int.reduceLT, Int.reduceLE, Int.reduceEq, Int.reduceNeg, Int.reduceMul, Int.reduceSub, Nat.reduceSub, reduceIte, ite_true, ite_false, and_true, true_and, and_self, c91_1 h97, c0, tp3, h3.1]
  · by_cases c1 : 0 ≤ i ∧ i < T 1 3
    · refine ⟨ug G 73 i.toNat (nrS (T 0 3) v), ?_, ?_, fun a ha => ug_ne (by omega)⟩
      · refine e91 (by omega) ?_
        simp (disch := omega) only [s91_0, s91_4, s91_4b, s91_7, s91_8, s91_9, m91_10, s91_13, m91_14, s91_15, s91_17, m91_19_66, m91_19_68, m91_19_70, m91_19_72, m91_19_74, m91_19_76, s91_22, s91_23, s91_23b, s91_26, s91_28, s91_29, s91_31, s91_35, s91_35b, s91_38, s91_40, s91_41, m91_43_66, m91_43_68, m91_43_70, m91_43_72, m91_43_74, m91_43_76, s91_46, s91_47, s91_49, m91_53_67, m91_53_69, m91_53_71, m91_53_73, m91_53_75, m91_53_77, s91_54, s91_55, Int.toNat_natCast, Int.toNat_natCast, Nat.reduceAdd, Nat.reduceMul, Int.reduceToNat, Int.reduceAdd, Int.reduceLT, Int.reduceLE, Int.reduceEq, Int.reduceNeg, Int.reduceMul, Int.reduceSub, Nat.reduceSub, reduceIte, ite_true, ite_false, and_true, true_and, and_self, c91_1 h97, c0, c1, tp3, h3.1, m91_32_72 h42, m91_50_72 h44]
      · rw [if_neg c0, if_pos c1]
        show tv _ (itS T 3 i.toNat (nrS (T 0 3) v))
        refine tv_upd3 w ⟨?_, ?_, ?_⟩ (fun a _ h2 => ug_ne h2) (fun k hk => ⟨?_, ?_, ?_⟩)
        · rw [ug_ne (by omega)]; exact h3.1
        · rw [ug_ne (by omega)]; exact h3.2.1
        · intro k hk
          unfold itS
          by_cases e2 : k = i.toNat
          · rw [e2, ug_at, if_pos ⟨rfl, rfl⟩]
          · rw [ug_k e2, if_neg (by omega)]; exact h3.2.2 k hk
        · unfold itS; rw [if_neg (by omega)]
        · unfold itS; rw [if_neg (by omega)]
        · intro m hm; unfold itS; rw [if_neg (by omega)]
    · refine ⟨G, ?_, by rw [if_neg c0, if_neg c1]; exact w, fun _ _ => rfl⟩
      refine e91 (by omega) ?_
      simp (disch := omega) only [s91_0, s91_4, s91_4b, s91_7, s91_8, s91_9, m91_10, s91_13, m91_14, s91_15, s91_17, m91_19_66, m91_19_68, m91_19_70, m91_19_72, m91_19_74, m91_19_76, s91_22, s91_23, s91_23b, s91_26, s91_28, s91_29, s91_31, s91_35, s91_35b, s91_38, s91_40, s91_41, m91_43_66, m91_43_68, m91_43_70, m91_43_72, m91_43_74, m91_43_76, s91_46, s91_47, s91_49, m91_53_67, m91_53_69, m91_53_71, m91_53_73, m91_53_75, m91_53_77, s91_54, s91_55, Int.toNat_natCast, Int.toNat_natCast, Nat.reduceAdd, Nat.reduceMul, Int.reduceToNat, Int.reduceAdd, Int.reduceLT, Int.reduceLE, Int.reduceEq, Int.reduceNeg, Int.reduceMul, Int.reduceSub, Nat.reduceSub, reduceIte, ite_true, ite_false, and_true, true_and, and_self, c91_1 h97, c0, c1, tp3, h3.1, m91_32_72 h42]
theorem sp92_3 {d N L : Nat} {i : Int} {B : q_Bv} {G T : q_Gi} (hd : 4 ≤ d) (h : tv G T) (ho : Tok T) (hi : -2147483648 ≤ i ∧ i ≤ 2147483647) : Sp d 92 [.ref 0, vI 3, vI i] (hp N L B G) (some (vL (r92 T 3 i))) (hp N L B G) := by
  have h97 := sp97 (d := d - 1) (z := 3) (X := hp N L B G) (by omega) (by omega)
  rw [bI_t (by omega)] at h97
  have h42 := sp42_3 (d := d - 1) (N := N) (L := L) (B := B) (by omega) h ho hi
  have o1 := ho 3 (by omega)
  obtain ⟨h0, h1, h2, h3, h4, h5⟩ := h
  refine e92 (by omega) ?_
  by_cases c1 : 0 ≤ i ∧ i < T 1 3
  · have e : r92 T 3 i = T 5 i.toNat := by unfold r92; exact if_pos ⟨by decide, c1⟩
    rw [e]
    simp (disch := omega) only [s92_0, s92_4, s92_4b, s92_7, m92_8, s92_11, m92_12, s92_13, s92_17, s92_17b, s92_20, s92_23, s92_24, m92_25, s92_28, m92_29, m92_30_66, m92_30_68, m92_30_70, m92_30_72, m92_30_74, m92_30_76, s92_33, m92_34_67, m92_34_69, m92_34_71, m92_34_73, m92_34_75, m92_34_77, s92_35, Int.toNat_natCast, Int.toNat_natCast, Nat.reduceAdd, Nat.reduceMul, Int.reduceToNat, Int.reduceAdd, Int.reduceLT, Int.reduceLE, Int.reduceEq, Int.reduceNeg, Int.reduceMul, Int.reduceSub, Nat.reduceSub, reduceIte, ite_true, ite_false, and_true, true_and, and_self, c92_1 h97, c1, tp3, m92_14_72 h42, h3.2.2 i.toNat (by omega)]
  · have e : r92 T 3 i = -9223372036854775808 := by unfold r92; exact if_neg (fun hh => c1 hh.2)
    rw [e]
    simp (disch := omega) only [s92_0, s92_4, s92_4b, s92_7, m92_8, s92_11, m92_12, s92_13, s92_17, s92_17b, s92_20, s92_23, s92_24, m92_25, s92_28, m92_29, m92_30_66, m92_30_68, m92_30_70, m92_30_72, m92_30_74, m92_30_76, s92_33, m92_34_67, m92_34_69, m92_34_71, m92_34_73, m92_34_75, m92_34_77, s92_35, Int.toNat_natCast, Int.toNat_natCast, Nat.reduceAdd, Nat.reduceMul, Int.reduceToNat, Int.reduceAdd, Int.reduceLT, Int.reduceLE, Int.reduceEq, Int.reduceNeg, Int.reduceMul, Int.reduceSub, Nat.reduceSub, reduceIte, ite_true, ite_false, and_true, true_and, and_self, c92_1 h97, c1, tp3, m92_14_72 h42]
theorem sp90_4 {d N L : Nat} {s n : Int} {B : q_Bv} {G T : q_Gi} (hd : 4 ≤ d) (h : tv G T) (hs : -2147483648 ≤ s ∧ s ≤ 2147483647) (hn : -2147483648 ≤ n ∧ n ≤ 2147483647) : ∃ G', Sp d 90 [.ref 0, vI 4, vI s, vI n] (hp N L B G) (some (vI (x90 T 4 s n).1)) (hp N L B G') ∧ tv G' (x90 T 4 s n).2 ∧ ∀ a, (a < 66 ∨ 77 < a) → G' a = G a := by
  have h97 := sp97 (d := d - 1) (z := 4) (X := hp N L B G) (by omega) (by omega)
  rw [bI_t (by omega)] at h97
  have e : x90 T 4 s n = (if s = -1 then (1, becS T 4 (-1) 0) else if (0 ≤ s ∧ s ≤ 4) ∧ n ≤ 60 then (if n < 0 then (-14, T) else (1, becS T 4 s n)) else (-2, T)) := rfl
  rw [e]
  by_cases c0 : s = -1
  · obtain ⟨G1, h41, w41, f41⟩ := sp41_4 (d := d - 1) (N := N) (L := L) (B := B) (s := -1) (n := 0) (by omega) h
    refine ⟨G1, ?_, by rw [if_pos c0]; exact w41, f41⟩
    refine e90 (by omega) ?_
    simp (disch := omega) only [s90_0, s90_4, s90_4b, s90_7, s90_8, s90_9, s90_10, s90_11, s90_11b, s90_14, m90_15, s90_18, m90_19, s90_20, s90_21, s90_25, s90_26, s90_27, s90_28, s90_31, s90_32, s90_33, s90_36, s90_37, s90_39, s90_42, s90_44, s90_45, s90_46, s90_49, s90_51, s90_52, m90_53, s90_56, m90_57, s90_58, s90_59, s90_63, s90_64, Int.toNat_natCast, Int.toNat_natCast, Nat.reduceAdd, Nat.reduceMul, Int.reduceToNat, Int.reduceAdd, Int.reduceLT, Int.reduceLE, Int.reduceEq, Int.reduceNeg, Int.reduceMul, Int.reduceSub, Nat.reduceSub, reduceIte, ite_true, ite_false, and_true, true_and, and_self, c90_1 h97, c0, tp4, m90_22_74 h41]
  · by_cases c1 : 0 ≤ s ∧ s ≤ 4
    · by_cases c2 : n ≤ 60
      · by_cases c3 : n < 0
        · refine ⟨G, ?_, by simp only [Int.toNat_natCast, Int.toNat_natCast, Nat.reduceAdd, Nat.reduceMul, Int.reduceToNat, Int.reduceAdd, Int.reduceLT, Int.reduceLE, Int.reduceEq, Int.reduceNeg, Int.reduceMul, Int.reduceSub, Nat.reduceSub, reduceIte, ite_true, ite_false, and_true, true_and, and_self, c0, c1, c2, c3]; exact h, fun _ _ => rfl⟩
          refine e90 (by omega) ?_
          have d1 : ¬ s < 0 := by omega
          have d2 : ¬ 4 < s := by omega
          have d3 : ¬ 60 < n := by omega
          simp (disch := omega) only [s90_0, s90_4, s90_4b, s90_7, s90_8, s90_9, s90_10, s90_11, s90_11b, s90_14, m90_15, s90_18, m90_19, s90_20, s90_21, s90_25, s90_26, s90_27, s90_28, s90_31, s90_32, s90_33, s90_36, s90_37, s90_39, s90_42, s90_44, s90_45, s90_46, s90_49, s90_51, s90_52, m90_53, s90_56, m90_57, s90_58, s90_59, s90_63, s90_64, Int.toNat_natCast, Int.toNat_natCast, Nat.reduceAdd, Nat.reduceMul, Int.reduceToNat, Int.reduceAdd, Int.reduceLT, Int.reduceLE, Int.reduceEq, Int.reduceNeg, Int.reduceMul, Int.reduceSub, Nat.reduceSub, reduceIte, ite_true, ite_false, and_true, true_and, and_self, c90_1 h97, c0, c1, c2, c3, d1, d2, d3]
        · obtain ⟨G1, h41, w41, f41⟩ := sp41_4 (d := d - 1) (N := N) (L := L) (B := B) (s := s) (n := n) (by omega) h
          refine ⟨G1, ?_, by simp only [Int.toNat_natCast, Int.toNat_natCast, Nat.reduceAdd, Nat.reduceMul, Int.reduceToNat, Int.reduceAdd, Int.reduceLT, Int.reduceLE, Int.reduceEq, Int.reduceNeg, Int.reduceMul, Int.reduceSub, Nat.reduceSub, reduceIte, ite_true, ite_false, and_true, true_and, and_self, c0, c1, c2, c3]; exact w41, f41⟩
          refine e90 (by omega) ?_
          have d1 : ¬ s < 0 := by omega
          have d2 : ¬ 4 < s := by omega
          have d3 : ¬ 60 < n := by omega
          simp (disch := omega) only [s90_0, s90_4, s90_4b, s90_7, s90_8, s90_9, s90_10, s90_11, s90_11b, s90_14, m90_15, s90_18, m90_19, s90_20, s90_21, s90_25, s90_26, s90_27, s90_28, s90_31, s90_32, s90_33, s90_36, s90_37, s90_39, s90_42, s90_44, s90_45, s90_46, s90_49, s90_51, s90_52, m90_53, s90_56, m90_57, s90_58, s90_59, s90_63, s90_64, Int.toNat_natCast, Int.toNat_natCast, Nat.reduceAdd, Nat.reduceMul, Int.reduceToNat, Int.reduceAdd, Int.reduceLT, Int.reduceLE, Int.reduceEq, Int.reduceNeg, Int.reduceMul, Int.reduceSub, Nat.reduceSub, reduceIte, ite_true, ite_false, and_true, true_and, and_self, c90_1 h97, c0, c1, c2, c3, d1, d2, d3, tp4, m90_60_74 h41]
      · refine ⟨G, ?_, by simp only [Int.toNat_natCast, Int.toNat_natCast, Nat.reduceAdd, Nat.reduceMul, Int.reduceToNat, Int.reduceAdd, Int.reduceLT, Int.reduceLE, Int.reduceEq, Int.reduceNeg, Int.reduceMul, Int.reduceSub, Nat.reduceSub, reduceIte, ite_true, ite_false, and_true, true_and, and_self, c0, c2, and_false]; exact h, fun _ _ => rfl⟩
        refine e90 (by omega) ?_
        have d1 : ¬ s < 0 := by omega
        have d2 : ¬ 4 < s := by omega
        have d3 : 60 < n := by omega
        simp (disch := omega) only [s90_0, s90_4, s90_4b, s90_7, s90_8, s90_9, s90_10, s90_11, s90_11b, s90_14, m90_15, s90_18, m90_19, s90_20, s90_21, s90_25, s90_26, s90_27, s90_28, s90_31, s90_32, s90_33, s90_36, s90_37, s90_39, s90_42, s90_44, s90_45, s90_46, s90_49, s90_51, s90_52, m90_53, s90_56, m90_57, s90_58, s90_59, s90_63, s90_64, Int.toNat_natCast, Int.toNat_natCast, Nat.reduceAdd, Nat.reduceMul, Int.reduceToNat, Int.reduceAdd, Int.reduceLT, Int.reduceLE, Int.reduceEq, Int.reduceNeg, Int.reduceMul, Int.reduceSub, Nat.reduceSub, reduceIte, ite_true, ite_false, and_true, true_and, and_self, c90_1 h97, c0, c2, d1, d2, d3, and_false]
    · refine ⟨G, ?_, by simp only [Int.toNat_natCast, Int.toNat_natCast, Nat.reduceAdd, Nat.reduceMul, Int.reduceToNat, Int.reduceAdd, Int.reduceLT, Int.reduceLE, Int.reduceEq, Int.reduceNeg, Int.reduceMul, Int.reduceSub, Nat.reduceSub, reduceIte, ite_true, ite_false, and_true, true_and, and_self, c0, c1, false_and]; exact h, fun _ _ => rfl⟩
      refine e90 (by omega) ?_
      by_cases d1 : s < 0
      · simp (disch := omega) only [s90_0, s90_4, s90_4b, s90_7, s90_8, s90_9, s90_10, s90_11, s90_11b, s90_14, m90_15, s90_18, m90_19, s90_20, s90_21, s90_25, s90_26, s90_27, s90_28, s90_31, s90_32, s90_33, s90_36, s90_37, s90_39, s90_42, s90_44, s90_45, s90_46, s90_49, s90_51, s90_52, m90_53, s90_56, m90_57, s90_58, s90_59, s90_63, s90_64, Int.toNat_natCast, Int.toNat_natCast, Nat.reduceAdd, Nat.reduceMul, Int.reduceToNat, Int.reduceAdd, Int.reduceLT, Int.reduceLE, Int.reduceEq, Int.reduceNeg, Int.reduceMul, Int.reduceSub, Nat.reduceSub, reduceIte, ite_true, ite_false, and_true, true_and, and_self, c90_1 h97, c0, c1, d1, false_and]
      · have d2 : 4 < s := by omega
        simp (disch := omega) only [s90_0, s90_4, s90_4b, s90_7, s90_8, s90_9, s90_10, s90_11, s90_11b, s90_14, m90_15, s90_18, m90_19, s90_20, s90_21, s90_25, s90_26, s90_27, s90_28, s90_31, s90_32, s90_33, s90_36, s90_37, s90_39, s90_42, s90_44, s90_45, s90_46, s90_49, s90_51, s90_52, m90_53, s90_56, m90_57, s90_58, s90_59, s90_63, s90_64, Int.toNat_natCast, Int.toNat_natCast, Nat.reduceAdd, Nat.reduceMul, Int.reduceToNat, Int.reduceAdd, Int.reduceLT, Int.reduceLE, Int.reduceEq, Int.reduceNeg, Int.reduceMul, Int.reduceSub, Nat.reduceSub, reduceIte, ite_true, ite_false, and_true, true_and, and_self, c90_1 h97, c0, c1, d1, d2, false_and]
theorem sp91_4 {d N L : Nat} {i v : Int} {B : q_Bv} {G T : q_Gi} (hd : 4 ≤ d) (h : tv G T) (ho : Tok T) (hi : -2147483648 ≤ i ∧ i ≤ 2147483647) (hv : lr v) : ∃ G', Sp d 91 [.ref 0, vI 4, vI i, vL v] (hp N L B G) (some (vI (x91 T 4 i v).1)) (hp N L B G') ∧ tv G' (x91 T 4 i v).2 ∧ ∀ a, (a < 66 ∨ 77 < a) → G' a = G a := by
  have h97 := sp97 (d := d - 1) (z := 4) (X := hp N L B G) (by omega) (by omega)
  rw [bI_t (by omega)] at h97
  have h42 := sp42_4 (d := d - 1) (N := N) (L := L) (B := B) (by omega) h ho hi
  have h44 := sp44_4 (d := d - 1) (N := N) (L := L) (B := B) (by omega) h ho hv
  have o1 := ho 4 (by omega)
  have w := h
  obtain ⟨h0, h1, h2, h3, h4, h5⟩ := h
  have e : x91 T 4 i v = (if T 0 4 = -1 then (-11, T) else if 0 ≤ i ∧ i < T 1 4 then (1, itS T 4 i.toNat (nrS (T 0 4) v)) else (-13, T)) := rfl
  rw [e]
  by_cases c0 : T 0 4 = -1
  · refine ⟨G, ?_, by rw [if_pos c0]; exact w, fun _ _ => rfl⟩
    refine e91 (by omega) ?_
    simp (disch := omega) only [s91_0, s91_4, s91_4b, s91_7, s91_8, s91_9, m91_10, s91_13, m91_14, s91_15, s91_17, m91_19_66, m91_19_68, m91_19_70, m91_19_72, m91_19_74, m91_19_76, s91_22, s91_23, s91_23b, s91_26, s91_28, s91_29, s91_31, s91_35, s91_35b, s91_38, s91_40, s91_41, m91_43_66, m91_43_68, m91_43_70, m91_43_72, m91_43_74, m91_43_76, s91_46, s91_47, s91_49, m91_53_67, m91_53_69, m91_53_71, m91_53_73, m91_53_75, m91_53_77, s91_54, s91_55, Int.toNat_natCast, Int.toNat_natCast, Nat.reduceAdd, Nat.reduceMul, Int.reduceToNat, Int.reduceAdd, Int.reduceLT, Int.reduceLE, Int.reduceEq, Int.reduceNeg, Int.reduceMul, Int.reduceSub, Nat.reduceSub, reduceIte, ite_true, ite_false, and_true, true_and, and_self, c91_1 h97, c0, tp4, h4.1]
  · by_cases c1 : 0 ≤ i ∧ i < T 1 4
    · refine ⟨ug G 75 i.toNat (nrS (T 0 4) v), ?_, ?_, fun a ha => ug_ne (by omega)⟩
      · refine e91 (by omega) ?_
        simp (disch := omega) only [s91_0, s91_4, s91_4b, s91_7, s91_8, s91_9, m91_10, s91_13, m91_14, s91_15, s91_17, m91_19_66, m91_19_68, m91_19_70, m91_19_72, m91_19_74, m91_19_76, s91_22, s91_23, s91_23b, s91_26, s91_28, s91_29, s91_31, s91_35, s91_35b, s91_38, s91_40, s91_41, m91_43_66, m91_43_68, m91_43_70, m91_43_72, m91_43_74, m91_43_76, s91_46, s91_47, s91_49, m91_53_67, m91_53_69, m91_53_71, m91_53_73, m91_53_75, m91_53_77, s91_54, s91_55, Int.toNat_natCast, Int.toNat_natCast, Nat.reduceAdd, Nat.reduceMul, Int.reduceToNat, Int.reduceAdd, Int.reduceLT, Int.reduceLE, Int.reduceEq, Int.reduceNeg, Int.reduceMul, Int.reduceSub, Nat.reduceSub, reduceIte, ite_true, ite_false, and_true, true_and, and_self, c91_1 h97, c0, c1, tp4, h4.1, m91_32_74 h42, m91_50_74 h44]
      · rw [if_neg c0, if_pos c1]
        show tv _ (itS T 4 i.toNat (nrS (T 0 4) v))
        refine tv_upd4 w ⟨?_, ?_, ?_⟩ (fun a _ h2 => ug_ne h2) (fun k hk => ⟨?_, ?_, ?_⟩)
        · rw [ug_ne (by omega)]; exact h4.1
        · rw [ug_ne (by omega)]; exact h4.2.1
        · intro k hk
          unfold itS
          by_cases e2 : k = i.toNat
          · rw [e2, ug_at, if_pos ⟨rfl, rfl⟩]
          · rw [ug_k e2, if_neg (by omega)]; exact h4.2.2 k hk
        · unfold itS; rw [if_neg (by omega)]
        · unfold itS; rw [if_neg (by omega)]
        · intro m hm; unfold itS; rw [if_neg (by omega)]
    · refine ⟨G, ?_, by rw [if_neg c0, if_neg c1]; exact w, fun _ _ => rfl⟩
      refine e91 (by omega) ?_
      simp (disch := omega) only [s91_0, s91_4, s91_4b, s91_7, s91_8, s91_9, m91_10, s91_13, m91_14, s91_15, s91_17, m91_19_66, m91_19_68, m91_19_70, m91_19_72, m91_19_74, m91_19_76, s91_22, s91_23, s91_23b, s91_26, s91_28, s91_29, s91_31, s91_35, s91_35b, s91_38, s91_40, s91_41, m91_43_66, m91_43_68, m91_43_70, m91_43_72, m91_43_74, m91_43_76, s91_46, s91_47, s91_49, m91_53_67, m91_53_69, m91_53_71, m91_53_73, m91_53_75, m91_53_77, s91_54, s91_55, Int.toNat_natCast, Int.toNat_natCast, Nat.reduceAdd, Nat.reduceMul, Int.reduceToNat, Int.reduceAdd, Int.reduceLT, Int.reduceLE, Int.reduceEq, Int.reduceNeg, Int.reduceMul, Int.reduceSub, Nat.reduceSub, reduceIte, ite_true, ite_false, and_true, true_and, and_self, c91_1 h97, c0, c1, tp4, h4.1, m91_32_74 h42]
theorem sp92_4 {d N L : Nat} {i : Int} {B : q_Bv} {G T : q_Gi} (hd : 4 ≤ d) (h : tv G T) (ho : Tok T) (hi : -2147483648 ≤ i ∧ i ≤ 2147483647) : Sp d 92 [.ref 0, vI 4, vI i] (hp N L B G) (some (vL (r92 T 4 i))) (hp N L B G) := by
  have h97 := sp97 (d := d - 1) (z := 4) (X := hp N L B G) (by omega) (by omega)
  rw [bI_t (by omega)] at h97
  have h42 := sp42_4 (d := d - 1) (N := N) (L := L) (B := B) (by omega) h ho hi
  have o1 := ho 4 (by omega)
  obtain ⟨h0, h1, h2, h3, h4, h5⟩ := h
  refine e92 (by omega) ?_
  by_cases c1 : 0 ≤ i ∧ i < T 1 4
  · have e : r92 T 4 i = T 6 i.toNat := by unfold r92; exact if_pos ⟨by decide, c1⟩
    rw [e]
    simp (disch := omega) only [s92_0, s92_4, s92_4b, s92_7, m92_8, s92_11, m92_12, s92_13, s92_17, s92_17b, s92_20, s92_23, s92_24, m92_25, s92_28, m92_29, m92_30_66, m92_30_68, m92_30_70, m92_30_72, m92_30_74, m92_30_76, s92_33, m92_34_67, m92_34_69, m92_34_71, m92_34_73, m92_34_75, m92_34_77, s92_35, Int.toNat_natCast, Int.toNat_natCast, Nat.reduceAdd, Nat.reduceMul, Int.reduceToNat, Int.reduceAdd, Int.reduceLT, Int.reduceLE, Int.reduceEq, Int.reduceNeg, Int.reduceMul, Int.reduceSub, Nat.reduceSub, reduceIte, ite_true, ite_false, and_true, true_and, and_self, c92_1 h97, c1, tp4, m92_14_74 h42, h4.2.2 i.toNat (by omega)]
  · have e : r92 T 4 i = -9223372036854775808 := by unfold r92; exact if_neg (fun hh => c1 hh.2)
    rw [e]
    simp (disch := omega) only [s92_0, s92_4, s92_4b, s92_7, m92_8, s92_11, m92_12, s92_13, s92_17, s92_17b, s92_20, s92_23, s92_24, m92_25, s92_28, m92_29, m92_30_66, m92_30_68, m92_30_70, m92_30_72, m92_30_74, m92_30_76, s92_33, m92_34_67, m92_34_69, m92_34_71, m92_34_73, m92_34_75, m92_34_77, s92_35, Int.toNat_natCast, Int.toNat_natCast, Nat.reduceAdd, Nat.reduceMul, Int.reduceToNat, Int.reduceAdd, Int.reduceLT, Int.reduceLE, Int.reduceEq, Int.reduceNeg, Int.reduceMul, Int.reduceSub, Nat.reduceSub, reduceIte, ite_true, ite_false, and_true, true_and, and_self, c92_1 h97, c1, tp4, m92_14_74 h42]
theorem sp90_5 {d N L : Nat} {s n : Int} {B : q_Bv} {G T : q_Gi} (hd : 4 ≤ d) (h : tv G T) (hs : -2147483648 ≤ s ∧ s ≤ 2147483647) (hn : -2147483648 ≤ n ∧ n ≤ 2147483647) : ∃ G', Sp d 90 [.ref 0, vI 5, vI s, vI n] (hp N L B G) (some (vI (x90 T 5 s n).1)) (hp N L B G') ∧ tv G' (x90 T 5 s n).2 ∧ ∀ a, (a < 66 ∨ 77 < a) → G' a = G a := by
  have h97 := sp97 (d := d - 1) (z := 5) (X := hp N L B G) (by omega) (by omega)
  rw [bI_t (by omega)] at h97
  have e : x90 T 5 s n = (if s = -1 then (1, becS T 5 (-1) 0) else if (0 ≤ s ∧ s ≤ 4) ∧ n ≤ 60 then (if n < 0 then (-14, T) else (1, becS T 5 s n)) else (-2, T)) := rfl
  rw [e]
  by_cases c0 : s = -1
  · obtain ⟨G1, h41, w41, f41⟩ := sp41_5 (d := d - 1) (N := N) (L := L) (B := B) (s := -1) (n := 0) (by omega) h
    refine ⟨G1, ?_, by rw [if_pos c0]; exact w41, f41⟩
    refine e90 (by omega) ?_
    simp (disch := omega) only [s90_0, s90_4, s90_4b, s90_7, s90_8, s90_9, s90_10, s90_11, s90_11b, s90_14, m90_15, s90_18, m90_19, s90_20, s90_21, s90_25, s90_26, s90_27, s90_28, s90_31, s90_32, s90_33, s90_36, s90_37, s90_39, s90_42, s90_44, s90_45, s90_46, s90_49, s90_51, s90_52, m90_53, s90_56, m90_57, s90_58, s90_59, s90_63, s90_64, Int.toNat_natCast, Int.toNat_natCast, Nat.reduceAdd, Nat.reduceMul, Int.reduceToNat, Int.reduceAdd, Int.reduceLT, Int.reduceLE, Int.reduceEq, Int.reduceNeg, Int.reduceMul, Int.reduceSub, Nat.reduceSub, reduceIte, ite_true, ite_false, and_true, true_and, and_self, c90_1 h97, c0, tp5, m90_22_76 h41]
  · by_cases c1 : 0 ≤ s ∧ s ≤ 4
    · by_cases c2 : n ≤ 60
      · by_cases c3 : n < 0
        · refine ⟨G, ?_, by simp only [Int.toNat_natCast, Int.toNat_natCast, Nat.reduceAdd, Nat.reduceMul, Int.reduceToNat, Int.reduceAdd, Int.reduceLT, Int.reduceLE, Int.reduceEq, Int.reduceNeg, Int.reduceMul, Int.reduceSub, Nat.reduceSub, reduceIte, ite_true, ite_false, and_true, true_and, and_self, c0, c1, c2, c3]; exact h, fun _ _ => rfl⟩
          refine e90 (by omega) ?_
          have d1 : ¬ s < 0 := by omega
          have d2 : ¬ 4 < s := by omega
          have d3 : ¬ 60 < n := by omega
          simp (disch := omega) only [s90_0, s90_4, s90_4b, s90_7, s90_8, s90_9, s90_10, s90_11, s90_11b, s90_14, m90_15, s90_18, m90_19, s90_20, s90_21, s90_25, s90_26, s90_27, s90_28, s90_31, s90_32, s90_33, s90_36, s90_37, s90_39, s90_42, s90_44, s90_45, s90_46, s90_49, s90_51, s90_52, m90_53, s90_56, m90_57, s90_58, s90_59, s90_63, s90_64, Int.toNat_natCast, Int.toNat_natCast, Nat.reduceAdd, Nat.reduceMul, Int.reduceToNat, Int.reduceAdd, Int.reduceLT, Int.reduceLE, Int.reduceEq, Int.reduceNeg, Int.reduceMul, Int.reduceSub, Nat.reduceSub, reduceIte, ite_true, ite_false, and_true, true_and, and_self, c90_1 h97, c0, c1, c2, c3, d1, d2, d3]
        · obtain ⟨G1, h41, w41, f41⟩ := sp41_5 (d := d - 1) (N := N) (L := L) (B := B) (s := s) (n := n) (by omega) h
          refine ⟨G1, ?_, by simp only [Int.toNat_natCast, Int.toNat_natCast, Nat.reduceAdd, Nat.reduceMul, Int.reduceToNat, Int.reduceAdd, Int.reduceLT, Int.reduceLE, Int.reduceEq, Int.reduceNeg, Int.reduceMul, Int.reduceSub, Nat.reduceSub, reduceIte, ite_true, ite_false, and_true, true_and, and_self, c0, c1, c2, c3]; exact w41, f41⟩
          refine e90 (by omega) ?_
          have d1 : ¬ s < 0 := by omega
          have d2 : ¬ 4 < s := by omega
          have d3 : ¬ 60 < n := by omega
          simp (disch := omega) only [s90_0, s90_4, s90_4b, s90_7, s90_8, s90_9, s90_10, s90_11, s90_11b, s90_14, m90_15, s90_18, m90_19, s90_20, s90_21, s90_25, s90_26, s90_27, s90_28, s90_31, s90_32, s90_33, s90_36, s90_37, s90_39, s90_42, s90_44, s90_45, s90_46, s90_49, s90_51, s90_52, m90_53, s90_56, m90_57, s90_58, s90_59, s90_63, s90_64, Int.toNat_natCast, Int.toNat_natCast, Nat.reduceAdd, Nat.reduceMul, Int.reduceToNat, Int.reduceAdd, Int.reduceLT, Int.reduceLE, Int.reduceEq, Int.reduceNeg, Int.reduceMul, Int.reduceSub, Nat.reduceSub, reduceIte, ite_true, ite_false, and_true, true_and, and_self, c90_1 h97, c0, c1, c2, c3, d1, d2, d3, tp5, m90_60_76 h41]
      · refine ⟨G, ?_, by simp only [Int.toNat_natCast, Int.toNat_natCast, Nat.reduceAdd, Nat.reduceMul, Int.reduceToNat, Int.reduceAdd, Int.reduceLT, Int.reduceLE, Int.reduceEq, Int.reduceNeg, Int.reduceMul, Int.reduceSub, Nat.reduceSub, reduceIte, ite_true, ite_false, and_true, true_and, and_self, c0, c2, and_false]; exact h, fun _ _ => rfl⟩
        refine e90 (by omega) ?_
        have d1 : ¬ s < 0 := by omega
        have d2 : ¬ 4 < s := by omega
        have d3 : 60 < n := by omega
        simp (disch := omega) only [s90_0, s90_4, s90_4b, s90_7, s90_8, s90_9, s90_10, s90_11, s90_11b, s90_14, m90_15, s90_18, m90_19, s90_20, s90_21, s90_25, s90_26, s90_27, s90_28, s90_31, s90_32, s90_33, s90_36, s90_37, s90_39, s90_42, s90_44, s90_45, s90_46, s90_49, s90_51, s90_52, m90_53, s90_56, m90_57, s90_58, s90_59, s90_63, s90_64, Int.toNat_natCast, Int.toNat_natCast, Nat.reduceAdd, Nat.reduceMul, Int.reduceToNat, Int.reduceAdd, Int.reduceLT, Int.reduceLE, Int.reduceEq, Int.reduceNeg, Int.reduceMul, Int.reduceSub, Nat.reduceSub, reduceIte, ite_true, ite_false, and_true, true_and, and_self, c90_1 h97, c0, c2, d1, d2, d3, and_false]
    · refine ⟨G, ?_, by simp only [Int.toNat_natCast, Int.toNat_natCast, Nat.reduceAdd, Nat.reduceMul, Int.reduceToNat, Int.reduceAdd, Int.reduceLT, Int.reduceLE, Int.reduceEq, Int.reduceNeg, Int.reduceMul, Int.reduceSub, Nat.reduceSub, reduceIte, ite_true, ite_false, and_true, true_and, and_self, c0, c1, false_and]; exact h, fun _ _ => rfl⟩
      refine e90 (by omega) ?_
      by_cases d1 : s < 0
      · simp (disch := omega) only [s90_0, s90_4, s90_4b, s90_7, s90_8, s90_9, s90_10, s90_11, s90_11b, s90_14, m90_15, s90_18, m90_19, s90_20, s90_21, s90_25, s90_26, s90_27, s90_28, s90_31, s90_32, s90_33, s90_36, s90_37, s90_39, s90_42, s90_44, s90_45, s90_46, s90_49, s90_51, s90_52, m90_53, s90_56, m90_57, s90_58, s90_59, s90_63, s90_64, Int.toNat_natCast, Int.toNat_natCast, Nat.reduceAdd, Nat.reduceMul, Int.reduceToNat, Int.reduceAdd, Int.reduceLT, Int.reduceLE, Int.reduceEq, Int.reduceNeg, Int.reduceMul, Int.reduceSub, Nat.reduceSub, reduceIte, ite_true, ite_false, and_true, true_and, and_self, c90_1 h97, c0, c1, d1, false_and]
      · have d2 : 4 < s := by omega
        simp (disch := omega) only [s90_0, s90_4, s90_4b, s90_7, s90_8, s90_9, s90_10, s90_11, s90_11b, s90_14, m90_15, s90_18, m90_19, s90_20, s90_21, s90_25, s90_26, s90_27, s90_28, s90_31, s90_32, s90_33, s90_36, s90_37, s90_39, s90_42, s90_44, s90_45, s90_46, s90_49, s90_51, s90_52, m90_53, s90_56, m90_57, s90_58, s90_59, s90_63, s90_64, Int.toNat_natCast, Int.toNat_natCast, Nat.reduceAdd, Nat.reduceMul, Int.reduceToNat, Int.reduceAdd, Int.reduceLT, Int.reduceLE, Int.reduceEq, Int.reduceNeg, Int.reduceMul, Int.reduceSub, Nat.reduceSub, reduceIte, ite_true, ite_false, and_true, true_and, and_self, c90_1 h97, c0, c1, d1, d2, false_and]
theorem sp91_5 {d N L : Nat} {i v : Int} {B : q_Bv} {G T : q_Gi} (hd : 4 ≤ d) (h : tv G T) (ho : Tok T) (hi : -2147483648 ≤ i ∧ i ≤ 2147483647) (hv : lr v) : ∃ G', Sp d 91 [.ref 0, vI 5, vI i, vL v] (hp N L B G) (some (vI (x91 T 5 i v).1)) (hp N L B G') ∧ tv G' (x91 T 5 i v).2 ∧ ∀ a, (a < 66 ∨ 77 < a) → G' a = G a := by
  have h97 := sp97 (d := d - 1) (z := 5) (X := hp N L B G) (by omega) (by omega)
  rw [bI_t (by omega)] at h97
  have h42 := sp42_5 (d := d - 1) (N := N) (L := L) (B := B) (by omega) h ho hi
  have h44 := sp44_5 (d := d - 1) (N := N) (L := L) (B := B) (by omega) h ho hv
  have o1 := ho 5 (by omega)
  have w := h
  obtain ⟨h0, h1, h2, h3, h4, h5⟩ := h
  have e : x91 T 5 i v = (if T 0 5 = -1 then (-11, T) else if 0 ≤ i ∧ i < T 1 5 then (1, itS T 5 i.toNat (nrS (T 0 5) v)) else (-13, T)) := rfl
  rw [e]
  by_cases c0 : T 0 5 = -1
  · refine ⟨G, ?_, by rw [if_pos c0]; exact w, fun _ _ => rfl⟩
    refine e91 (by omega) ?_
    simp (disch := omega) only [s91_0, s91_4, s91_4b, s91_7, s91_8, s91_9, m91_10, s91_13, m91_14, s91_15, s91_17, m91_19_66, m91_19_68, m91_19_70, m91_19_72, m91_19_74, m91_19_76, s91_22, s91_23, s91_23b, s91_26, s91_28, s91_29, s91_31, s91_35, s91_35b, s91_38, s91_40, s91_41, m91_43_66, m91_43_68, m91_43_70, m91_43_72, m91_43_74, m91_43_76, s91_46, s91_47, s91_49, m91_53_67, m91_53_69, m91_53_71, m91_53_73, m91_53_75, m91_53_77, s91_54, s91_55, Int.toNat_natCast, Int.toNat_natCast, Nat.reduceAdd, Nat.reduceMul, Int.reduceToNat, Int.reduceAdd, Int.reduceLT, Int.reduceLE, Int.reduceEq, Int.reduceNeg, Int.reduceMul, Int.reduceSub, Nat.reduceSub, reduceIte, ite_true, ite_false, and_true, true_and, and_self, c91_1 h97, c0, tp5, h5.1]
  · by_cases c1 : 0 ≤ i ∧ i < T 1 5
    · refine ⟨ug G 77 i.toNat (nrS (T 0 5) v), ?_, ?_, fun a ha => ug_ne (by omega)⟩
      · refine e91 (by omega) ?_
        simp (disch := omega) only [s91_0, s91_4, s91_4b, s91_7, s91_8, s91_9, m91_10, s91_13, m91_14, s91_15, s91_17, m91_19_66, m91_19_68, m91_19_70, m91_19_72, m91_19_74, m91_19_76, s91_22, s91_23, s91_23b, s91_26, s91_28, s91_29, s91_31, s91_35, s91_35b, s91_38, s91_40, s91_41, m91_43_66, m91_43_68, m91_43_70, m91_43_72, m91_43_74, m91_43_76, s91_46, s91_47, s91_49, m91_53_67, m91_53_69, m91_53_71, m91_53_73, m91_53_75, m91_53_77, s91_54, s91_55, Int.toNat_natCast, Int.toNat_natCast, Nat.reduceAdd, Nat.reduceMul, Int.reduceToNat, Int.reduceAdd, Int.reduceLT, Int.reduceLE, Int.reduceEq, Int.reduceNeg, Int.reduceMul, Int.reduceSub, Nat.reduceSub, reduceIte, ite_true, ite_false, and_true, true_and, and_self, c91_1 h97, c0, c1, tp5, h5.1, m91_32_76 h42, m91_50_76 h44]
      · rw [if_neg c0, if_pos c1]
        show tv _ (itS T 5 i.toNat (nrS (T 0 5) v))
        refine tv_upd5 w ⟨?_, ?_, ?_⟩ (fun a _ h2 => ug_ne h2) (fun k hk => ⟨?_, ?_, ?_⟩)
        · rw [ug_ne (by omega)]; exact h5.1
        · rw [ug_ne (by omega)]; exact h5.2.1
        · intro k hk
          unfold itS
          by_cases e2 : k = i.toNat
          · rw [e2, ug_at, if_pos ⟨rfl, rfl⟩]
          · rw [ug_k e2, if_neg (by omega)]; exact h5.2.2 k hk
        · unfold itS; rw [if_neg (by omega)]
        · unfold itS; rw [if_neg (by omega)]
        · intro m hm; unfold itS; rw [if_neg (by omega)]
    · refine ⟨G, ?_, by rw [if_neg c0, if_neg c1]; exact w, fun _ _ => rfl⟩
      refine e91 (by omega) ?_
      simp (disch := omega) only [s91_0, s91_4, s91_4b, s91_7, s91_8, s91_9, m91_10, s91_13, m91_14, s91_15, s91_17, m91_19_66, m91_19_68, m91_19_70, m91_19_72, m91_19_74, m91_19_76, s91_22, s91_23, s91_23b, s91_26, s91_28, s91_29, s91_31, s91_35, s91_35b, s91_38, s91_40, s91_41, m91_43_66, m91_43_68, m91_43_70, m91_43_72, m91_43_74, m91_43_76, s91_46, s91_47, s91_49, m91_53_67, m91_53_69, m91_53_71, m91_53_73, m91_53_75, m91_53_77, s91_54, s91_55, Int.toNat_natCast, Int.toNat_natCast, Nat.reduceAdd, Nat.reduceMul, Int.reduceToNat, Int.reduceAdd, Int.reduceLT, Int.reduceLE, Int.reduceEq, Int.reduceNeg, Int.reduceMul, Int.reduceSub, Nat.reduceSub, reduceIte, ite_true, ite_false, and_true, true_and, and_self, c91_1 h97, c0, c1, tp5, h5.1, m91_32_76 h42]
theorem sp92_5 {d N L : Nat} {i : Int} {B : q_Bv} {G T : q_Gi} (hd : 4 ≤ d) (h : tv G T) (ho : Tok T) (hi : -2147483648 ≤ i ∧ i ≤ 2147483647) : Sp d 92 [.ref 0, vI 5, vI i] (hp N L B G) (some (vL (r92 T 5 i))) (hp N L B G) := by
  have h97 := sp97 (d := d - 1) (z := 5) (X := hp N L B G) (by omega) (by omega)
  rw [bI_t (by omega)] at h97
  have h42 := sp42_5 (d := d - 1) (N := N) (L := L) (B := B) (by omega) h ho hi
  have o1 := ho 5 (by omega)
  obtain ⟨h0, h1, h2, h3, h4, h5⟩ := h
  refine e92 (by omega) ?_
  by_cases c1 : 0 ≤ i ∧ i < T 1 5
  · have e : r92 T 5 i = T 7 i.toNat := by unfold r92; exact if_pos ⟨by decide, c1⟩
    rw [e]
    simp (disch := omega) only [s92_0, s92_4, s92_4b, s92_7, m92_8, s92_11, m92_12, s92_13, s92_17, s92_17b, s92_20, s92_23, s92_24, m92_25, s92_28, m92_29, m92_30_66, m92_30_68, m92_30_70, m92_30_72, m92_30_74, m92_30_76, s92_33, m92_34_67, m92_34_69, m92_34_71, m92_34_73, m92_34_75, m92_34_77, s92_35, Int.toNat_natCast, Int.toNat_natCast, Nat.reduceAdd, Nat.reduceMul, Int.reduceToNat, Int.reduceAdd, Int.reduceLT, Int.reduceLE, Int.reduceEq, Int.reduceNeg, Int.reduceMul, Int.reduceSub, Nat.reduceSub, reduceIte, ite_true, ite_false, and_true, true_and, and_self, c92_1 h97, c1, tp5, m92_14_76 h42, h5.2.2 i.toNat (by omega)]
  · have e : r92 T 5 i = -9223372036854775808 := by unfold r92; exact if_neg (fun hh => c1 hh.2)
    rw [e]
    simp (disch := omega) only [s92_0, s92_4, s92_4b, s92_7, m92_8, s92_11, m92_12, s92_13, s92_17, s92_17b, s92_20, s92_23, s92_24, m92_25, s92_28, m92_29, m92_30_66, m92_30_68, m92_30_70, m92_30_72, m92_30_74, m92_30_76, s92_33, m92_34_67, m92_34_69, m92_34_71, m92_34_73, m92_34_75, m92_34_77, s92_35, Int.toNat_natCast, Int.toNat_natCast, Nat.reduceAdd, Nat.reduceMul, Int.reduceToNat, Int.reduceAdd, Int.reduceLT, Int.reduceLE, Int.reduceEq, Int.reduceNeg, Int.reduceMul, Int.reduceSub, Nat.reduceSub, reduceIte, ite_true, ite_false, and_true, true_and, and_self, c92_1 h97, c1, tp5, m92_14_76 h42]
theorem six {z : Int} (h : 0 ≤ z ∧ z < 6) : z = 0 ∨ z = 1 ∨ z = 2 ∨ z = 3 ∨ z = 4 ∨ z = 5 := by omega
theorem sp90 {d N L : Nat} {z s n : Int} {B : q_Bv} {G T : q_Gi} (hd : 4 ≤ d) (h : tv G T) (hz : -2147483648 ≤ z ∧ z ≤ 2147483647) (hs : -2147483648 ≤ s ∧ s ≤ 2147483647) (hn : -2147483648 ≤ n ∧ n ≤ 2147483647) : ∃ G', Sp d 90 [.ref 0, vI z, vI s, vI n] (hp N L B G) (some (vI (x90 T z s n).1)) (hp N L B G') ∧ tv G' (x90 T z s n).2 ∧ ∀ a, (a < 66 ∨ 77 < a) → G' a = G a := by
  by_cases c : 0 ≤ z ∧ z < 6
  · rcases six c with rfl | rfl | rfl | rfl | rfl | rfl
    · exact sp90_0 hd h hs hn
    · exact sp90_1 hd h hs hn
    · exact sp90_2 hd h hs hn
    · exact sp90_3 hd h hs hn
    · exact sp90_4 hd h hs hn
    · exact sp90_5 hd h hs hn
  · have h97 := sp97 (d := d - 1) (z := z) (X := hp N L B G) (by omega) hz
    refine ⟨G, ?_, by unfold x90; rw [if_neg c]; exact h, fun _ _ => rfl⟩
    refine e90 (by omega) ?_
    simp (disch := omega) only [s90_0, s90_4, s90_4b, s90_7, s90_8, s90_9, s90_10, s90_11, s90_11b, s90_14, m90_15, s90_18, m90_19, s90_20, s90_21, s90_25, s90_26, s90_27, s90_28, s90_31, s90_32, s90_33, s90_36, s90_37, s90_39, s90_42, s90_44, s90_45, s90_46, s90_49, s90_51, s90_52, m90_53, s90_56, m90_57, s90_58, s90_59, s90_63, s90_64, Int.toNat_natCast, Int.toNat_natCast, Nat.reduceAdd, Nat.reduceMul, Int.reduceToNat, Int.reduceAdd, Int.reduceLT, Int.reduceLE, Int.reduceEq, Int.reduceNeg, Int.reduceMul, Int.reduceSub, Nat.reduceSub, reduceIte, ite_true, ite_false, and_true, true_and, and_self, c90_1 h97, c, x90]
theorem sp91 {d N L : Nat} {z i v : Int} {B : q_Bv} {G T : q_Gi} (hd : 4 ≤ d) (h : tv G T) (ho : Tok T) (hz : -2147483648 ≤ z ∧ z ≤ 2147483647) (hi : -2147483648 ≤ i ∧ i ≤ 2147483647) (hv : lr v) : ∃ G', Sp d 91 [.ref 0, vI z, vI i, vL v] (hp N L B G) (some (vI (x91 T z i v).1)) (hp N L B G') ∧ tv G' (x91 T z i v).2 ∧ ∀ a, (a < 66 ∨ 77 < a) → G' a = G a := by
  by_cases c : 0 ≤ z ∧ z < 6
  · rcases six c with rfl | rfl | rfl | rfl | rfl | rfl
    · exact sp91_0 hd h ho hi hv
    · exact sp91_1 hd h ho hi hv
    · exact sp91_2 hd h ho hi hv
    · exact sp91_3 hd h ho hi hv
    · exact sp91_4 hd h ho hi hv
    · exact sp91_5 hd h ho hi hv
  · have h97 := sp97 (d := d - 1) (z := z) (X := hp N L B G) (by omega) hz
    refine ⟨G, ?_, by unfold x91; rw [if_neg c]; exact h, fun _ _ => rfl⟩
    refine e91 (by omega) ?_
    simp (disch := omega) only [s91_0, s91_4, s91_4b, s91_7, s91_8, s91_9, m91_10, s91_13, m91_14, s91_15, s91_17, m91_19_66, m91_19_68, m91_19_70, m91_19_72, m91_19_74, m91_19_76, s91_22, s91_23, s91_23b, s91_26, s91_28, s91_29, s91_31, s91_35, s91_35b, s91_38, s91_40, s91_41, m91_43_66, m91_43_68, m91_43_70, m91_43_72, m91_43_74, m91_43_76, s91_46, s91_47, s91_49, m91_53_67, m91_53_69, m91_53_71, m91_53_73, m91_53_75, m91_53_77, s91_54, s91_55, Int.toNat_natCast, Int.toNat_natCast, Nat.reduceAdd, Nat.reduceMul, Int.reduceToNat, Int.reduceAdd, Int.reduceLT, Int.reduceLE, Int.reduceEq, Int.reduceNeg, Int.reduceMul, Int.reduceSub, Nat.reduceSub, reduceIte, ite_true, ite_false, and_true, true_and, and_self, c91_1 h97, c, x91]
theorem sp92 {d N L : Nat} {z i : Int} {B : q_Bv} {G T : q_Gi} (hd : 4 ≤ d) (h : tv G T) (ho : Tok T) (hz : -2147483648 ≤ z ∧ z ≤ 2147483647) (hi : -2147483648 ≤ i ∧ i ≤ 2147483647) : Sp d 92 [.ref 0, vI z, vI i] (hp N L B G) (some (vL (r92 T z i))) (hp N L B G) := by
  by_cases c : 0 ≤ z ∧ z < 6
  · rcases six c with rfl | rfl | rfl | rfl | rfl | rfl
    · exact sp92_0 hd h ho hi
    · exact sp92_1 hd h ho hi
    · exact sp92_2 hd h ho hi
    · exact sp92_3 hd h ho hi
    · exact sp92_4 hd h ho hi
    · exact sp92_5 hd h ho hi
  · have h97 := sp97 (d := d - 1) (z := z) (X := hp N L B G) (by omega) hz
    have e : r92 T z i = -9223372036854775808 := by unfold r92; exact if_neg (fun hh => c hh.1)
    refine e92 (by omega) ?_
    rw [e]
    simp (disch := omega) only [s92_0, s92_4, s92_4b, s92_7, m92_8, s92_11, m92_12, s92_13, s92_17, s92_17b, s92_20, s92_23, s92_24, m92_25, s92_28, m92_29, m92_30_66, m92_30_68, m92_30_70, m92_30_72, m92_30_74, m92_30_76, s92_33, m92_34_67, m92_34_69, m92_34_71, m92_34_73, m92_34_75, m92_34_77, s92_35, Int.toNat_natCast, Int.toNat_natCast, Nat.reduceAdd, Nat.reduceMul, Int.reduceToNat, Int.reduceAdd, Int.reduceLT, Int.reduceLE, Int.reduceEq, Int.reduceNeg, Int.reduceMul, Int.reduceSub, Nat.reduceSub, reduceIte, ite_true, ite_false, and_true, true_and, and_self, c92_1 h97, c]
