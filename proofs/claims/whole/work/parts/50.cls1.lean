/-! the class's calls: of, told, fill, store, row, bell, eats, pass, strike -/
/-- a call that changes nothing: all but what is used for the asking -/
def qf (G G' : q_Gi) : Prop := ∀ a, a < 7 ∨ (14 < a ∧ a < 59) ∨ a = 62 ∨ a = 63 ∨ 64 < a → G' a = G a
theorem qf_r (G : q_Gi) : qf G G := fun _ _ => rfl
theorem qf_t {G G' G'' : q_Gi} (h1 : qf G G') (h2 : qf G' G'') : qf G G'' := fun a ha => (h2 a ha).trans (h1 a ha)
def isB (H : q_Gi) (b : Int) : Prop := 0 ≤ b ∧ b < H 0 0
def r55 (t : Int) (cl : List (Int × List Int)) (H : q_Gi) (b w : Int) : Int := if 0 ≤ b ∧ b < H 0 0 then (if w = 0 then H 1 b.toNat else if w = 1 then H 2 b.toNat else if w = 2 then H 3 b.toNat else if w = 3 then hungS H b.toNat else if w = 4 then noteS (H 1 b.toNat) (H 2 b.toNat) else if w = 5 then offS (H 1 b.toNat) (H 2 b.toNat) (H 3 b.toNat) else if w = 6 then bI (tunS t H b.toNat = true) else if 10 ≤ w ∧ w < 14 then fillS cl H b.toNat (w - 10).toNat (H 3 b.toNat) else -1) else -1
theorem sp55 {d u N L : Nat} {t g b w : Int} {cl : List (Int × List Int)} {B : q_Bv} {G H : q_Gi} (hd : 8 ≤ d) (hv : hv1 G H) (ho : Hok H) (hu : G 1 8 = (u : Int)) (hU : upl B N u t g cl) (hb : -2147483648 ≤ b ∧ b ≤ 2147483647) (hw : -2147483648 ≤ w ∧ w ≤ 2147483647) : ∃ G', Sp d 55 [.ref 0, vI b, vI w] (hp N L B G) (some (vI (r55 t cl H b w))) (hp N L B G') ∧ qf G G' := by
  have hok' := hok1_v hv ho
  have hv' := hv
  obtain ⟨v0, v6, v7, v1, v2, v3, v4, v5⟩ := hv
  have h94 := sp94 (d := d - 1) (N := N) (L := L) (B := B) (G := G) (by omega) hb (by rw [v0]; exact ho.1)
  rw [v0] at h94
  by_cases hB : 0 ≤ b ∧ b < H 0 0
  · obtain ⟨n, rfl⟩ : ∃ n : Nat, b = (n : Int) := ⟨b.toNat, by omega⟩
    have hn6 : n < 6 := by have := ho.1; omega
    have h3 := ho.2.2.2.1 n hn6
    have h6 := sp6_1 (d := d - 1) (N := N) (L := L) (B := B) (by omega) hok' hn6
    have h7 := sp7_1 (d := d - 1) (N := N) (L := L) (B := B) (by omega) hok' hn6
    have h8 := sp8_1 (d := d - 1) (N := N) (L := L) (B := B) (f := H 3 n) (by omega) hok' hn6 (by omega)
    have h9 := sp9_1 (d := d - 1) (L := L) (f := H 3 n) (by omega) hok' hu hU hn6 (by omega)
    rw [v1 n hn6, v2 n hn6, v6, v4 _ (by omega)] at h6
    rw [v1 n hn6, v2 n hn6] at h7 h8 h9
    change Sp (d - 1) 6 _ _ (some (vI (hungS H n))) _ at h6
    change Sp (d - 1) 9 _ _ (some (vI (bI (tunS t H n = true)))) _ at h9
    by_cases hW : 10 ≤ w ∧ w < 14
    · obtain ⟨e, rfl⟩ : ∃ e : Nat, w = (e : Int) + 10 := ⟨(w - 10).toNat, by omega⟩
      obtain ⟨G', h11, hf⟩ := sp11_1 (d := d - 1) (L := L) (fd := H 3 n) (b := n) (f := e) (by omega) hok' hu hU hn6 (by omega) (by omega)
      refine ⟨G', ?_, fun a ha => hf a (by omega)⟩
      refine e55 (by omega) ?_
      have n0 : ¬ ((e : Int) + 10 = 0) := by omega
      have n1 : ¬ ((e : Int) + 10 = 1) := by omega
      have n2 : ¬ ((e : Int) + 10 = 2) := by omega
      have n3 : ¬ ((e : Int) + 10 = 3) := by omega
      have n4 : ¬ ((e : Int) + 10 = 4) := by omega
      have n5 : ¬ ((e : Int) + 10 = 5) := by omega
      have n6 : ¬ ((e : Int) + 10 = 6) := by omega
      have n7 : ¬ ((e : Int) + 10 < 10) := by omega
      have e10 : (e : Int) + 10 - 10 = (e : Int) := by omega
      have e4 : 0 ≤ (e : Int) ∧ (e : Int) < 4 := by omega
      have e14 : (e : Int) + 10 < 14 := by omega
      have e11 : 10 ≤ (e : Int) + 10 := by omega
      have h95 := sp95 (d := d - 1) (z := (e : Int)) (X := hp N L B G) (by omega) (by omega)
      rw [v1 n hn6, v2 n hn6, v6] at h11
      simp (disch := omega) only [s55_0, s55_1, s55_5, s55_5b, s55_8, s55_9, s55_10, m55_11, m55_14, s55_17, m55_18, s55_19, s55_20, s55_21, s55_64, m55_65, m55_68, s55_71, m55_72, s55_73, s55_74, m55_75, m55_78, s55_81, m55_82, s55_83, s55_84, s55_85, s55_86, m55_87, s55_90, s55_94, s55_95, m55_96, s55_99, s55_103, s55_104, m55_105, s55_108, s55_109, s55_113, s55_114, m55_115, s55_118, s55_119, s55_123, s55_123b, s55_126, s55_127, s55_130, s55_131, s55_132, s55_133, s55_135, s55_138, s55_139, s55_141, s55_145, s55_145b, s55_148, m55_149, s55_152, s55_153, s55_154, s55_156, s55_157, s55_161, s55_164, s55_165, m55_2 h94, hB, Int.toNat_natCast, Int.toNat_natCast, Nat.reduceAdd, Nat.reduceMul, Int.reduceToNat, Int.reduceAdd, Int.reduceLT, Int.reduceLE, Int.reduceEq, Int.reduceNeg, Int.reduceMul, Int.reduceSub, Nat.reduceSub, reduceIte, ite_true, ite_false, and_true, true_and, and_self, v3 n hn6, n0, n1, n2, n3, n4, n5, n6, n7, e10, c55_142 h95, e4, m55_158 h11, r55, fillS, e14, e11]
    · refine ⟨G, ?_, qf_r G⟩
      have hw' : w = 0 ∨ w = 1 ∨ w = 2 ∨ w = 3 ∨ w = 4 ∨ w = 5 ∨ w = 6 ∨ (¬ w = 0 ∧ ¬ w = 1 ∧ ¬ w = 2 ∧ ¬ w = 3 ∧ ¬ w = 4 ∧ ¬ w = 5 ∧ ¬ w = 6) := by omega
      refine e55 (by omega) ?_
      simp (disch := omega) only [s55_0, s55_1, s55_5, s55_5b, s55_8, s55_9, s55_10, m55_11, m55_14, s55_17, m55_18, s55_19, s55_20, m55_2 h94, hB, Int.toNat_natCast, Int.toNat_natCast, Nat.reduceAdd, Nat.reduceMul, Int.reduceToNat, Int.reduceAdd, Int.reduceLT, Int.reduceLE, Int.reduceEq, Int.reduceNeg, Int.reduceMul, Int.reduceSub, Nat.reduceSub, reduceIte, ite_true, ite_false, and_true, true_and, and_self, v3 n hn6, r55, hW]
      rcases hw' with rfl | rfl | rfl | rfl | rfl | rfl | rfl | ⟨n0, n1, n2, n3, n4, n5, n6⟩
      · simp (disch := omega) only [s55_21, s55_64, m55_65, m55_68, s55_71, m55_72, s55_73, s55_74, m55_75, m55_78, s55_81, m55_82, s55_83, s55_84, s55_85, s55_86, m55_87, s55_90, s55_94, s55_95, m55_96, s55_99, s55_103, s55_104, m55_105, s55_108, s55_109, s55_113, s55_114, m55_115, s55_118, s55_119, s55_123, s55_123b, s55_126, s55_127, s55_130, s55_131, s55_132, Int.toNat_natCast, Int.toNat_natCast, Nat.reduceAdd, Nat.reduceMul, Int.reduceToNat, Int.reduceAdd, Int.reduceLT, Int.reduceLE, Int.reduceEq, Int.reduceNeg, Int.reduceMul, Int.reduceSub, Nat.reduceSub, reduceIte, ite_true, ite_false, and_true, true_and, and_self, v1 n hn6]
      · simp (disch := omega) only [s55_21, s55_64, m55_65, m55_68, s55_71, m55_72, s55_73, s55_74, m55_75, m55_78, s55_81, m55_82, s55_83, s55_84, s55_85, s55_86, m55_87, s55_90, s55_94, s55_95, m55_96, s55_99, s55_103, s55_104, m55_105, s55_108, s55_109, s55_113, s55_114, m55_115, s55_118, s55_119, s55_123, s55_123b, s55_126, s55_127, s55_130, s55_131, s55_132, Int.toNat_natCast, Int.toNat_natCast, Nat.reduceAdd, Nat.reduceMul, Int.reduceToNat, Int.reduceAdd, Int.reduceLT, Int.reduceLE, Int.reduceEq, Int.reduceNeg, Int.reduceMul, Int.reduceSub, Nat.reduceSub, reduceIte, ite_true, ite_false, and_true, true_and, and_self, v2 n hn6]
      · simp (disch := omega) only [s55_21, s55_64, m55_65, m55_68, s55_71, m55_72, s55_73, s55_74, m55_75, m55_78, s55_81, m55_82, s55_83, s55_84, s55_85, s55_86, m55_87, s55_90, s55_94, s55_95, m55_96, s55_99, s55_103, s55_104, m55_105, s55_108, s55_109, s55_113, s55_114, m55_115, s55_118, s55_119, s55_123, s55_123b, s55_126, s55_127, s55_130, s55_131, s55_132, Int.toNat_natCast, Int.toNat_natCast, Nat.reduceAdd, Nat.reduceMul, Int.reduceToNat, Int.reduceAdd, Int.reduceLT, Int.reduceLE, Int.reduceEq, Int.reduceNeg, Int.reduceMul, Int.reduceSub, Nat.reduceSub, reduceIte, ite_true, ite_false, and_true, true_and, and_self]
      · simp (disch := omega) only [s55_21, s55_64, m55_65, m55_68, s55_71, m55_72, s55_73, s55_74, m55_75, m55_78, s55_81, m55_82, s55_83, s55_84, s55_85, s55_86, m55_87, s55_90, s55_94, s55_95, m55_96, s55_99, s55_103, s55_104, m55_105, s55_108, s55_109, s55_113, s55_114, m55_115, s55_118, s55_119, s55_123, s55_123b, s55_126, s55_127, s55_130, s55_131, s55_132, Int.toNat_natCast, Int.toNat_natCast, Nat.reduceAdd, Nat.reduceMul, Int.reduceToNat, Int.reduceAdd, Int.reduceLT, Int.reduceLE, Int.reduceEq, Int.reduceNeg, Int.reduceMul, Int.reduceSub, Nat.reduceSub, reduceIte, ite_true, ite_false, and_true, true_and, and_self, m55_91 h6]
      · simp (disch := omega) only [s55_21, s55_64, m55_65, m55_68, s55_71, m55_72, s55_73, s55_74, m55_75, m55_78, s55_81, m55_82, s55_83, s55_84, s55_85, s55_86, m55_87, s55_90, s55_94, s55_95, m55_96, s55_99, s55_103, s55_104, m55_105, s55_108, s55_109, s55_113, s55_114, m55_115, s55_118, s55_119, s55_123, s55_123b, s55_126, s55_127, s55_130, s55_131, s55_132, Int.toNat_natCast, Int.toNat_natCast, Nat.reduceAdd, Nat.reduceMul, Int.reduceToNat, Int.reduceAdd, Int.reduceLT, Int.reduceLE, Int.reduceEq, Int.reduceNeg, Int.reduceMul, Int.reduceSub, Nat.reduceSub, reduceIte, ite_true, ite_false, and_true, true_and, and_self, m55_100 h7]
      · simp (disch := omega) only [s55_21, s55_64, m55_65, m55_68, s55_71, m55_72, s55_73, s55_74, m55_75, m55_78, s55_81, m55_82, s55_83, s55_84, s55_85, s55_86, m55_87, s55_90, s55_94, s55_95, m55_96, s55_99, s55_103, s55_104, m55_105, s55_108, s55_109, s55_113, s55_114, m55_115, s55_118, s55_119, s55_123, s55_123b, s55_126, s55_127, s55_130, s55_131, s55_132, Int.toNat_natCast, Int.toNat_natCast, Nat.reduceAdd, Nat.reduceMul, Int.reduceToNat, Int.reduceAdd, Int.reduceLT, Int.reduceLE, Int.reduceEq, Int.reduceNeg, Int.reduceMul, Int.reduceSub, Nat.reduceSub, reduceIte, ite_true, ite_false, and_true, true_and, and_self, m55_110 h8]
      · simp (disch := omega) only [s55_21, s55_64, m55_65, m55_68, s55_71, m55_72, s55_73, s55_74, m55_75, m55_78, s55_81, m55_82, s55_83, s55_84, s55_85, s55_86, m55_87, s55_90, s55_94, s55_95, m55_96, s55_99, s55_103, s55_104, m55_105, s55_108, s55_109, s55_113, s55_114, m55_115, s55_118, s55_119, s55_123, s55_123b, s55_126, s55_127, s55_130, s55_131, s55_132, Int.toNat_natCast, Int.toNat_natCast, Nat.reduceAdd, Nat.reduceMul, Int.reduceToNat, Int.reduceAdd, Int.reduceLT, Int.reduceLE, Int.reduceEq, Int.reduceNeg, Int.reduceMul, Int.reduceSub, Nat.reduceSub, reduceIte, ite_true, ite_false, and_true, true_and, and_self, m55_120 h9]
        split <;> rename_i hc
        · rw [bI_t hc]
        · rw [bI_f hc]
      · by_cases hw10 : w < 10
        · simp (disch := omega) only [s55_21, s55_64, m55_65, m55_68, s55_71, m55_72, s55_73, s55_74, m55_75, m55_78, s55_81, m55_82, s55_83, s55_84, s55_85, s55_86, m55_87, s55_90, s55_94, s55_95, m55_96, s55_99, s55_103, s55_104, m55_105, s55_108, s55_109, s55_113, s55_114, m55_115, s55_118, s55_119, s55_123, s55_123b, s55_126, s55_127, s55_130, s55_131, s55_132, s55_133, s55_135, s55_138, s55_139, s55_141, s55_145, s55_145b, s55_148, m55_149, s55_152, s55_153, s55_154, s55_156, s55_157, s55_161, s55_164, s55_165, Int.toNat_natCast, Int.toNat_natCast, Nat.reduceAdd, Nat.reduceMul, Int.reduceToNat, Int.reduceAdd, Int.reduceLT, Int.reduceLE, Int.reduceEq, Int.reduceNeg, Int.reduceMul, Int.reduceSub, Nat.reduceSub, reduceIte, ite_true, ite_false, and_true, true_and, and_self, n0, n1, n2, n3, n4, n5, n6, hw10]
        · have hw0 : ¬ (0 ≤ w - 10 ∧ w - 10 < 4) := by omega
          have h95 := sp95 (d := d - 1) (z := w - 10) (X := hp N L B G) (by omega) (by omega)
          simp (disch := omega) only [s55_21, s55_64, m55_65, m55_68, s55_71, m55_72, s55_73, s55_74, m55_75, m55_78, s55_81, m55_82, s55_83, s55_84, s55_85, s55_86, m55_87, s55_90, s55_94, s55_95, m55_96, s55_99, s55_103, s55_104, m55_105, s55_108, s55_109, s55_113, s55_114, m55_115, s55_118, s55_119, s55_123, s55_123b, s55_126, s55_127, s55_130, s55_131, s55_132, s55_133, s55_135, s55_138, s55_139, s55_141, s55_145, s55_145b, s55_148, m55_149, s55_152, s55_153, s55_154, s55_156, s55_157, s55_161, s55_164, s55_165, Int.toNat_natCast, Int.toNat_natCast, Nat.reduceAdd, Nat.reduceMul, Int.reduceToNat, Int.reduceAdd, Int.reduceLT, Int.reduceLE, Int.reduceEq, Int.reduceNeg, Int.reduceMul, Int.reduceSub, Nat.reduceSub, reduceIte, ite_true, ite_false, and_true, true_and, and_self, n0, n1, n2, n3, n4, n5, n6, hw10, c55_142 h95, hw0]
  · refine ⟨G, ?_, qf_r G⟩
    refine e55 (by omega) ?_
    simp (disch := omega) only [s55_0, s55_1, s55_5, s55_5b, s55_8, s55_9, m55_2 h94, hB, Int.toNat_natCast, Int.toNat_natCast, Nat.reduceAdd, Nat.reduceMul, Int.reduceToNat, Int.reduceAdd, Int.reduceLT, Int.reduceLE, Int.reduceEq, Int.reduceNeg, Int.reduceMul, Int.reduceSub, Nat.reduceSub, reduceIte, ite_true, ite_false, and_true, true_and, and_self, r55]
/-- one number of H becomes z -/
def x54 (H : q_Gi) (k v f : Int) : Int × q_Gi := if 0 ≤ k ∧ k < 7 then (if (0 ≤ v ∧ v ≤ 9) ∧ (0 ≤ f ∧ f ≤ 99) then (if H 0 0 < 6 then (H 0 0, addS k v f H) else (-4, H)) else (-2, H)) else (-1, H)
theorem sp54 {d N L : Nat} {k v f : Int} {B : q_Bv} {G H : q_Gi} (hd : 2 ≤ d) (hv : hv1 G H) (ho : Hok H) (hk : -2147483648 ≤ k ∧ k ≤ 2147483647) (hv2 : -2147483648 ≤ v ∧ v ≤ 2147483647) (hf : -2147483648 ≤ f ∧ f ≤ 2147483647) : ∃ G', Sp d 54 [.ref 0, vI k, vI v, vI f] (hp N L B G) (some (vI (x54 H k v f).1)) (hp N L B G') ∧ hv1 G' (x54 H k v f).2 ∧ fr1 G G' := by
  have hv0 := hv.1
  have h96 := sp96 (d := d - 1) (z := k) (X := hp N L B G) (by omega) hk
  have h981 := sp98 (d := d - 1) (z := v) (m := 9) (X := hp N L B G) (by omega) hv2 (by omega)
  have h982 := sp98 (d := d - 1) (z := f) (m := 99) (X := hp N L B G) (by omega) hf (by omega)
  have hc := ho.1
  by_cases c1 : 0 ≤ k ∧ k < 7
  · by_cases c2 : 0 ≤ v ∧ v ≤ 9
    · by_cases c3 : 0 ≤ f ∧ f ≤ 99
      · by_cases c4 : H 0 0 < 6
        · obtain ⟨n, hn⟩ : ∃ n : Nat, H 0 0 = (n : Int) := ⟨(H 0 0).toNat, by omega⟩
          obtain ⟨G', h5, h5v, h5f⟩ := sp5 (d := d - 1) (k := k) (v := v) (fd := f) (N := N) (L := L) (B := B) (by omega) hv hn (by omega)
          have c5 : (n : Int) < 6 := by omega
          refine ⟨G', ?_, ?_, h5f⟩
          · refine e54 (by omega) ?_
            simp (disch := omega) only [s54_0, s54_4, s54_4b, s54_7, s54_8, s54_9, s54_10, s54_15, s54_15b, s54_18, s54_19, s54_24, s54_24b, s54_27, s54_29, s54_30, m54_31, m54_34, s54_37, s54_39, s54_42, s54_44, s54_45, m54_46, s54_49, s54_50, s54_51, s54_55, Int.toNat_natCast, Int.toNat_natCast, Nat.reduceAdd, Nat.reduceMul, Int.reduceToNat, Int.reduceAdd, Int.reduceLT, Int.reduceLE, Int.reduceEq, Int.reduceNeg, Int.reduceMul, Int.reduceSub, Nat.reduceSub, reduceIte, ite_true, ite_false, and_true, true_and, and_self, c54_1 h96, c54_12 h981, c54_21 h982, c1, c2, c3, c5, hv0, m54_52 h5, x54, hn]
          · simp only [x54, Int.toNat_natCast, Int.toNat_natCast, Nat.reduceAdd, Nat.reduceMul, Int.reduceToNat, Int.reduceAdd, Int.reduceLT, Int.reduceLE, Int.reduceEq, Int.reduceNeg, Int.reduceMul, Int.reduceSub, Nat.reduceSub, reduceIte, ite_true, ite_false, and_true, true_and, and_self, c1, c2, c3, c4]; exact h5v
        · refine ⟨G, ?_, ?_, fr1_r G⟩
          · refine e54 (by omega) ?_
            simp (disch := omega) only [s54_0, s54_4, s54_4b, s54_7, s54_8, s54_9, s54_10, s54_15, s54_15b, s54_18, s54_19, s54_24, s54_24b, s54_27, s54_29, s54_30, m54_31, m54_34, s54_37, s54_39, s54_42, s54_44, s54_45, m54_46, s54_49, s54_50, s54_51, s54_55, Int.toNat_natCast, Int.toNat_natCast, Nat.reduceAdd, Nat.reduceMul, Int.reduceToNat, Int.reduceAdd, Int.reduceLT, Int.reduceLE, Int.reduceEq, Int.reduceNeg, Int.reduceMul, Int.reduceSub, Nat.reduceSub, reduceIte, ite_true, ite_false, and_true, true_and, and_self, c54_1 h96, c54_12 h981, c54_21 h982, c1, c2, c3, c4, hv0, x54]
          · simp only [x54, Int.toNat_natCast, Int.toNat_natCast, Nat.reduceAdd, Nat.reduceMul, Int.reduceToNat, Int.reduceAdd, Int.reduceLT, Int.reduceLE, Int.reduceEq, Int.reduceNeg, Int.reduceMul, Int.reduceSub, Nat.reduceSub, reduceIte, ite_true, ite_false, and_true, true_and, and_self, c1, c2, c3, c4]; exact hv
      · refine ⟨G, ?_, ?_, fr1_r G⟩
        · refine e54 (by omega) ?_
          simp (disch := omega) only [s54_0, s54_4, s54_4b, s54_7, s54_8, s54_9, s54_10, s54_15, s54_15b, s54_18, s54_19, s54_24, s54_24b, s54_27, s54_29, s54_30, m54_31, m54_34, s54_37, s54_39, s54_42, s54_44, s54_45, m54_46, s54_49, s54_50, s54_51, s54_55, Int.toNat_natCast, Int.toNat_natCast, Nat.reduceAdd, Nat.reduceMul, Int.reduceToNat, Int.reduceAdd, Int.reduceLT, Int.reduceLE, Int.reduceEq, Int.reduceNeg, Int.reduceMul, Int.reduceSub, Nat.reduceSub, reduceIte, ite_true, ite_false, and_true, true_and, and_self, c54_1 h96, c54_12 h981, c54_21 h982, c1, c2, c3, x54, and_false]
        · simp only [x54, Int.toNat_natCast, Int.toNat_natCast, Nat.reduceAdd, Nat.reduceMul, Int.reduceToNat, Int.reduceAdd, Int.reduceLT, Int.reduceLE, Int.reduceEq, Int.reduceNeg, Int.reduceMul, Int.reduceSub, Nat.reduceSub, reduceIte, ite_true, ite_false, and_true, true_and, and_self, c1, c2, c3, and_false]; exact hv
    · refine ⟨G, ?_, ?_, fr1_r G⟩
      · refine e54 (by omega) ?_
        simp (disch := omega) only [s54_0, s54_4, s54_4b, s54_7, s54_8, s54_9, s54_10, s54_15, s54_15b, s54_18, s54_19, s54_24, s54_24b, s54_27, s54_29, s54_30, m54_31, m54_34, s54_37, s54_39, s54_42, s54_44, s54_45, m54_46, s54_49, s54_50, s54_51, s54_55, Int.toNat_natCast, Int.toNat_natCast, Nat.reduceAdd, Nat.reduceMul, Int.reduceToNat, Int.reduceAdd, Int.reduceLT, Int.reduceLE, Int.reduceEq, Int.reduceNeg, Int.reduceMul, Int.reduceSub, Nat.reduceSub, reduceIte, ite_true, ite_false, and_true, true_and, and_self, c54_1 h96, c54_12 h981, c1, c2, x54, false_and]
      · simp only [x54, Int.toNat_natCast, Int.toNat_natCast, Nat.reduceAdd, Nat.reduceMul, Int.reduceToNat, Int.reduceAdd, Int.reduceLT, Int.reduceLE, Int.reduceEq, Int.reduceNeg, Int.reduceMul, Int.reduceSub, Nat.reduceSub, reduceIte, ite_true, ite_false, and_true, true_and, and_self, c1, c2, false_and]; exact hv
  · refine ⟨G, ?_, ?_, fr1_r G⟩
    · refine e54 (by omega) ?_
      simp (disch := omega) only [s54_0, s54_4, s54_4b, s54_7, s54_8, s54_9, s54_10, s54_15, s54_15b, s54_18, s54_19, s54_24, s54_24b, s54_27, s54_29, s54_30, m54_31, m54_34, s54_37, s54_39, s54_42, s54_44, s54_45, m54_46, s54_49, s54_50, s54_51, s54_55, Int.toNat_natCast, Int.toNat_natCast, Nat.reduceAdd, Nat.reduceMul, Int.reduceToNat, Int.reduceAdd, Int.reduceLT, Int.reduceLE, Int.reduceEq, Int.reduceNeg, Int.reduceMul, Int.reduceSub, Nat.reduceSub, reduceIte, ite_true, ite_false, and_true, true_and, and_self, c54_1 h96, c1, x54]
    · simp only [x54, Int.toNat_natCast, Int.toNat_natCast, Nat.reduceAdd, Nat.reduceMul, Int.reduceToNat, Int.reduceAdd, Int.reduceLT, Int.reduceLE, Int.reduceEq, Int.reduceNeg, Int.reduceMul, Int.reduceSub, Nat.reduceSub, reduceIte, ite_true, ite_false, and_true, true_and, and_self, c1]; exact hv
/-- place k of the row a becomes z -/
def setS (H : q_Gi) (a k : Nat) (z : Int) : q_Gi := fun f j => if f = a ∧ j = k then z else H f j
theorem hv1_set3 {G H : q_Gi} {k : Nat} {z : Int} (hv : hv1 G H) : hv1 (ug G 4 k z) (setS H 3 k z) := by
  obtain ⟨v0, v6, v7, v1, v2, v3, v4, v5⟩ := hv
  refine ⟨v0, v6, v7, v1, v2, fun j hj => ?_, v4, v5⟩
  unfold setS ug
  by_cases e : j = k
  · simp [e]
  · simp [e]; exact v3 j hj
theorem hv1_set4 {G H : q_Gi} {k : Nat} {z : Int} (hv : hv1 G H) : hv1 (ug G 5 k z) (setS H 4 k z) := by
  obtain ⟨v0, v6, v7, v1, v2, v3, v4, v5⟩ := hv
  refine ⟨v0, v6, v7, v1, v2, v3, fun j hj => ?_, v5⟩
  unfold setS ug
  by_cases e : j = k
  · simp [e]
  · simp [e]; exact v4 j hj
theorem hv1_set5 {G H : q_Gi} {k : Nat} {z : Int} (hv : hv1 G H) : hv1 (ug G 6 k z) (setS H 5 k z) := by
  obtain ⟨v0, v6, v7, v1, v2, v3, v4, v5⟩ := hv
  refine ⟨v0, v6, v7, v1, v2, v3, v4, fun j hj => ?_⟩
  unfold setS ug
  by_cases e : j = k
  · simp [e]
  · simp [e]; exact v5 j hj
theorem fr1_ug {G : q_Gi} {a k : Nat} {z : Int} (h : 1 < a ∧ a ≤ 7) : fr1 G (ug G a k z) := ⟨fun b hb => ug_ne (by omega), by rw [ug_ne (by omega)]⟩
def x56 (H : q_Gi) (b n : Int) : Int × q_Gi := if 0 ≤ b ∧ b < H 0 0 then (if 0 ≤ n ∧ n ≤ 99 then (H 3 b.toNat, setS H 3 b.toNat n) else (-2, H)) else (-1, H)
theorem sp56 {d N L : Nat} {b n : Int} {B : q_Bv} {G H : q_Gi} (hd : 2 ≤ d) (hv : hv1 G H) (ho : Hok H) (hb : -2147483648 ≤ b ∧ b ≤ 2147483647) (hn : -2147483648 ≤ n ∧ n ≤ 2147483647) : ∃ G', Sp d 56 [.ref 0, vI b, vI n] (hp N L B G) (some (vI (x56 H b n).1)) (hp N L B G') ∧ hv1 G' (x56 H b n).2 ∧ fr1 G G' := by
  have hv0 := hv.1
  have h94 := sp94 (d := d - 1) (N := N) (L := L) (B := B) (G := G) (by omega) hb (by rw [hv0]; exact ho.1)
  rw [hv0] at h94
  have h98 := sp98 (d := d - 1) (z := n) (m := 99) (X := hp N L B G) (by omega) hn (by omega)
  have hc := ho.1
  by_cases c1 : 0 ≤ b ∧ b < H 0 0
  · obtain ⟨k, rfl⟩ : ∃ k : Nat, b = (k : Int) := ⟨b.toNat, by omega⟩
    by_cases c2 : 0 ≤ n ∧ n ≤ 99
    · refine ⟨ug G 4 k n, ?_, ?_, fr1_ug (by omega)⟩
      · refine e56 (by omega) ?_
        simp (disch := omega) only [s56_0, s56_1, s56_5, s56_5b, s56_8, s56_9, s56_10, s56_11, s56_16, s56_16b, s56_19, s56_21, s56_22, m56_23, m56_26, s56_29, m56_30, s56_31, s56_32, m56_33, m56_36, s56_39, s56_40, m56_41, s56_42, s56_43, Int.toNat_natCast, Int.toNat_natCast, Nat.reduceAdd, Nat.reduceMul, Int.reduceToNat, Int.reduceAdd, Int.reduceLT, Int.reduceLE, Int.reduceEq, Int.reduceNeg, Int.reduceMul, Int.reduceSub, Nat.reduceSub, reduceIte, ite_true, ite_false, and_true, true_and, and_self, m56_2 h94, c56_13 h98, c1, c2, x56, hv.2.2.2.2.2.1 k (by omega)]
      · simp only [x56, Int.toNat_natCast, Int.toNat_natCast, Nat.reduceAdd, Nat.reduceMul, Int.reduceToNat, Int.reduceAdd, Int.reduceLT, Int.reduceLE, Int.reduceEq, Int.reduceNeg, Int.reduceMul, Int.reduceSub, Nat.reduceSub, reduceIte, ite_true, ite_false, and_true, true_and, and_self, c1, c2]; exact hv1_set3 hv
    · refine ⟨G, ?_, ?_, fr1_r G⟩
      · refine e56 (by omega) ?_
        simp (disch := omega) only [s56_0, s56_1, s56_5, s56_5b, s56_8, s56_9, s56_10, s56_11, s56_16, s56_16b, s56_19, s56_21, s56_22, m56_23, m56_26, s56_29, m56_30, s56_31, s56_32, m56_33, m56_36, s56_39, s56_40, m56_41, s56_42, s56_43, Int.toNat_natCast, Int.toNat_natCast, Nat.reduceAdd, Nat.reduceMul, Int.reduceToNat, Int.reduceAdd, Int.reduceLT, Int.reduceLE, Int.reduceEq, Int.reduceNeg, Int.reduceMul, Int.reduceSub, Nat.reduceSub, reduceIte, ite_true, ite_false, and_true, true_and, and_self, m56_2 h94, c56_13 h98, c1, c2, x56]
      · simp only [x56, Int.toNat_natCast, Int.toNat_natCast, Nat.reduceAdd, Nat.reduceMul, Int.reduceToNat, Int.reduceAdd, Int.reduceLT, Int.reduceLE, Int.reduceEq, Int.reduceNeg, Int.reduceMul, Int.reduceSub, Nat.reduceSub, reduceIte, ite_true, ite_false, and_true, true_and, and_self, c1, c2]; exact hv
  · refine ⟨G, ?_, ?_, fr1_r G⟩
    · refine e56 (by omega) ?_
      simp (disch := omega) only [s56_0, s56_1, s56_5, s56_5b, s56_8, s56_9, s56_10, s56_11, s56_16, s56_16b, s56_19, s56_21, s56_22, m56_23, m56_26, s56_29, m56_30, s56_31, s56_32, m56_33, m56_36, s56_39, s56_40, m56_41, s56_42, s56_43, Int.toNat_natCast, Int.toNat_natCast, Nat.reduceAdd, Nat.reduceMul, Int.reduceToNat, Int.reduceAdd, Int.reduceLT, Int.reduceLE, Int.reduceEq, Int.reduceNeg, Int.reduceMul, Int.reduceSub, Nat.reduceSub, reduceIte, ite_true, ite_false, and_true, true_and, and_self, m56_2 h94, c1, x56]
    · simp only [x56, Int.toNat_natCast, Int.toNat_natCast, Nat.reduceAdd, Nat.reduceMul, Int.reduceToNat, Int.reduceAdd, Int.reduceLT, Int.reduceLE, Int.reduceEq, Int.reduceNeg, Int.reduceMul, Int.reduceSub, Nat.reduceSub, reduceIte, ite_true, ite_false, and_true, true_and, and_self, c1]; exact hv
def x57 (H : q_Gi) (b n : Int) : Int × q_Gi := if 0 ≤ b ∧ b < 4 then (if 0 ≤ n ∧ n ≤ 99 then (H 5 b.toNat, setS H 5 b.toNat n) else (-2, H)) else (-1, H)
theorem sp57 {d N L : Nat} {b n : Int} {B : q_Bv} {G H : q_Gi} (hd : 2 ≤ d) (hv : hv1 G H) (hb : -2147483648 ≤ b ∧ b ≤ 2147483647) (hn : -2147483648 ≤ n ∧ n ≤ 2147483647) : ∃ G', Sp d 57 [.ref 0, vI b, vI n] (hp N L B G) (some (vI (x57 H b n).1)) (hp N L B G') ∧ hv1 G' (x57 H b n).2 ∧ fr1 G G' := by
  have h95 := sp95 (d := d - 1) (z := b) (X := hp N L B G) (by omega) hb
  have h98 := sp98 (d := d - 1) (z := n) (m := 99) (X := hp N L B G) (by omega) hn (by omega)
  by_cases c1 : 0 ≤ b ∧ b < 4
  · obtain ⟨k, rfl⟩ : ∃ k : Nat, b = (k : Int) := ⟨b.toNat, by omega⟩
    by_cases c2 : 0 ≤ n ∧ n ≤ 99
    · refine ⟨ug G 6 k n, ?_, ?_, fr1_ug (by omega)⟩
      · refine e57 (by omega) ?_
        simp (disch := omega) only [s57_0, s57_4, s57_4b, s57_7, s57_8, s57_9, s57_10, s57_15, s57_15b, s57_18, s57_20, s57_21, m57_22, m57_25, s57_28, m57_29, s57_30, s57_31, m57_32, m57_35, s57_38, s57_39, m57_40, s57_41, s57_42, Int.toNat_natCast, Int.toNat_natCast, Nat.reduceAdd, Nat.reduceMul, Int.reduceToNat, Int.reduceAdd, Int.reduceLT, Int.reduceLE, Int.reduceEq, Int.reduceNeg, Int.reduceMul, Int.reduceSub, Nat.reduceSub, reduceIte, ite_true, ite_false, and_true, true_and, and_self, c57_1 h95, c57_12 h98, c1, c2, x57, hv.2.2.2.2.2.2.2 k (by omega)]
      · simp only [x57, Int.toNat_natCast, Int.toNat_natCast, Nat.reduceAdd, Nat.reduceMul, Int.reduceToNat, Int.reduceAdd, Int.reduceLT, Int.reduceLE, Int.reduceEq, Int.reduceNeg, Int.reduceMul, Int.reduceSub, Nat.reduceSub, reduceIte, ite_true, ite_false, and_true, true_and, and_self, c1, c2]; exact hv1_set5 hv
    · refine ⟨G, ?_, ?_, fr1_r G⟩
      · refine e57 (by omega) ?_
        simp (disch := omega) only [s57_0, s57_4, s57_4b, s57_7, s57_8, s57_9, s57_10, s57_15, s57_15b, s57_18, s57_20, s57_21, m57_22, m57_25, s57_28, m57_29, s57_30, s57_31, m57_32, m57_35, s57_38, s57_39, m57_40, s57_41, s57_42, Int.toNat_natCast, Int.toNat_natCast, Nat.reduceAdd, Nat.reduceMul, Int.reduceToNat, Int.reduceAdd, Int.reduceLT, Int.reduceLE, Int.reduceEq, Int.reduceNeg, Int.reduceMul, Int.reduceSub, Nat.reduceSub, reduceIte, ite_true, ite_false, and_true, true_and, and_self, c57_1 h95, c57_12 h98, c1, c2, x57]
      · simp only [x57, Int.toNat_natCast, Int.toNat_natCast, Nat.reduceAdd, Nat.reduceMul, Int.reduceToNat, Int.reduceAdd, Int.reduceLT, Int.reduceLE, Int.reduceEq, Int.reduceNeg, Int.reduceMul, Int.reduceSub, Nat.reduceSub, reduceIte, ite_true, ite_false, and_true, true_and, and_self, c1, c2]; exact hv
  · refine ⟨G, ?_, ?_, fr1_r G⟩
    · refine e57 (by omega) ?_
      simp (disch := omega) only [s57_0, s57_4, s57_4b, s57_7, s57_8, s57_9, s57_10, s57_15, s57_15b, s57_18, s57_20, s57_21, m57_22, m57_25, s57_28, m57_29, s57_30, s57_31, m57_32, m57_35, s57_38, s57_39, m57_40, s57_41, s57_42, Int.toNat_natCast, Int.toNat_natCast, Nat.reduceAdd, Nat.reduceMul, Int.reduceToNat, Int.reduceAdd, Int.reduceLT, Int.reduceLE, Int.reduceEq, Int.reduceNeg, Int.reduceMul, Int.reduceSub, Nat.reduceSub, reduceIte, ite_true, ite_false, and_true, true_and, and_self, c57_1 h95, c1, x57]
    · simp only [x57, Int.toNat_natCast, Int.toNat_natCast, Nat.reduceAdd, Nat.reduceMul, Int.reduceToNat, Int.reduceAdd, Int.reduceLT, Int.reduceLE, Int.reduceEq, Int.reduceNeg, Int.reduceMul, Int.reduceSub, Nat.reduceSub, reduceIte, ite_true, ite_false, and_true, true_and, and_self, c1]; exact hv
def x58 (H : q_Gi) (b p n : Int) : Int × q_Gi := if (0 ≤ b ∧ b < H 0 0) ∧ (0 ≤ p ∧ p < 4) then (if 0 ≤ n ∧ n ≤ 9 then (if H 1 b.toNat = 6 then (H 4 (b.toNat * 4 + p.toNat), setS H 4 (b.toNat * 4 + p.toNat) n) else (-3, H)) else (-2, H)) else (-1, H)
theorem sp58 {d N L : Nat} {b p n : Int} {B : q_Bv} {G H : q_Gi} (hd : 2 ≤ d) (hv : hv1 G H) (ho : Hok H) (hb : -2147483648 ≤ b ∧ b ≤ 2147483647) (hp' : -2147483648 ≤ p ∧ p ≤ 2147483647) (hn : -2147483648 ≤ n ∧ n ≤ 2147483647) : ∃ G', Sp d 58 [.ref 0, vI b, vI p, vI n] (hp N L B G) (some (vI (x58 H b p n).1)) (hp N L B G') ∧ hv1 G' (x58 H b p n).2 ∧ fr1 G G' := by
  have hv0 := hv.1
  have h94 := sp94 (d := d - 1) (N := N) (L := L) (B := B) (G := G) (by omega) hb (by rw [hv0]; exact ho.1)
  rw [hv0] at h94
  have h98 := sp98 (d := d - 1) (z := n) (m := 9) (X := hp N L B G) (by omega) hn (by omega)
  have hc := ho.1
  by_cases c1 : 0 ≤ b ∧ b < H 0 0
  · obtain ⟨k, rfl⟩ : ∃ k : Nat, b = (k : Int) := ⟨b.toNat, by omega⟩
    have k1 := ho.2.1 k (by omega)
    have e1 := hv.2.2.2.1 k (by omega)
    by_cases c2 : 0 ≤ p ∧ p < 4
    · obtain ⟨j, rfl⟩ : ∃ j : Nat, p = (j : Int) := ⟨p.toNat, by omega⟩
      have e3 : ((k : Int) * 4 + (j : Int)).toNat = k * 4 + j := by omega
      have e2 := hv.2.2.2.2.2.2.1 (k * 4 + j) (by omega)
      have c21 : ¬ ((j : Int) < 0) := by omega
      by_cases c3 : 0 ≤ n ∧ n ≤ 9
      · by_cases c4 : H 1 k = 6
        · refine ⟨ug G 5 (k * 4 + j) n, ?_, ?_, fr1_ug (by omega)⟩
          · refine e58 (by omega) ?_
            simp (disch := omega) only [s58_0, s58_1, s58_5, s58_5b, s58_8, s58_9, s58_12, s58_13, s58_14, s58_17, s58_18, s58_19, s58_20, s58_25, s58_25b, s58_28, s58_30, s58_31, m58_32, m58_35, s58_38, m58_39, s58_40, s58_42, s58_42b, s58_45, s58_47, s58_48, s58_49, s58_50, s58_51, s58_52, s58_53, s58_55, m58_56, m58_59, s58_62, m58_64, s58_65, s58_67, m58_68, m58_71, s58_74, s58_76, m58_77, s58_78, s58_80, Int.toNat_natCast, Int.toNat_natCast, Nat.reduceAdd, Nat.reduceMul, Int.reduceToNat, Int.reduceAdd, Int.reduceLT, Int.reduceLE, Int.reduceEq, Int.reduceNeg, Int.reduceMul, Int.reduceSub, Nat.reduceSub, reduceIte, ite_true, ite_false, and_true, true_and, and_self, m58_2 h94, c58_22 h98, c1, c2, c3, c4, c21, x58, e1, e2, e3]
          · simp only [x58, Int.toNat_natCast, Int.toNat_natCast, Nat.reduceAdd, Nat.reduceMul, Int.reduceToNat, Int.reduceAdd, Int.reduceLT, Int.reduceLE, Int.reduceEq, Int.reduceNeg, Int.reduceMul, Int.reduceSub, Nat.reduceSub, reduceIte, ite_true, ite_false, and_true, true_and, and_self, c1, c2, c3, c4]; exact hv1_set4 hv
        · refine ⟨G, ?_, ?_, fr1_r G⟩
          · refine e58 (by omega) ?_
            simp (disch := omega) only [s58_0, s58_1, s58_5, s58_5b, s58_8, s58_9, s58_12, s58_13, s58_14, s58_17, s58_18, s58_19, s58_20, s58_25, s58_25b, s58_28, s58_30, s58_31, m58_32, m58_35, s58_38, m58_39, s58_40, s58_42, s58_42b, s58_45, s58_47, s58_48, s58_49, s58_50, s58_51, s58_52, s58_53, s58_55, m58_56, m58_59, s58_62, m58_64, s58_65, s58_67, m58_68, m58_71, s58_74, s58_76, m58_77, s58_78, s58_80, Int.toNat_natCast, Int.toNat_natCast, Nat.reduceAdd, Nat.reduceMul, Int.reduceToNat, Int.reduceAdd, Int.reduceLT, Int.reduceLE, Int.reduceEq, Int.reduceNeg, Int.reduceMul, Int.reduceSub, Nat.reduceSub, reduceIte, ite_true, ite_false, and_true, true_and, and_self, m58_2 h94, c58_22 h98, c1, c2, c3, c4, c21, x58, e1]
          · simp only [x58, Int.toNat_natCast, Int.toNat_natCast, Nat.reduceAdd, Nat.reduceMul, Int.reduceToNat, Int.reduceAdd, Int.reduceLT, Int.reduceLE, Int.reduceEq, Int.reduceNeg, Int.reduceMul, Int.reduceSub, Nat.reduceSub, reduceIte, ite_true, ite_false, and_true, true_and, and_self, c1, c2, c3, c4]; exact hv
      · refine ⟨G, ?_, ?_, fr1_r G⟩
        · refine e58 (by omega) ?_
          simp (disch := omega) only [s58_0, s58_1, s58_5, s58_5b, s58_8, s58_9, s58_12, s58_13, s58_14, s58_17, s58_18, s58_19, s58_20, s58_25, s58_25b, s58_28, s58_30, s58_31, m58_32, m58_35, s58_38, m58_39, s58_40, s58_42, s58_42b, s58_45, s58_47, s58_48, s58_49, s58_50, s58_51, s58_52, s58_53, s58_55, m58_56, m58_59, s58_62, m58_64, s58_65, s58_67, m58_68, m58_71, s58_74, s58_76, m58_77, s58_78, s58_80, Int.toNat_natCast, Int.toNat_natCast, Nat.reduceAdd, Nat.reduceMul, Int.reduceToNat, Int.reduceAdd, Int.reduceLT, Int.reduceLE, Int.reduceEq, Int.reduceNeg, Int.reduceMul, Int.reduceSub, Nat.reduceSub, reduceIte, ite_true, ite_false, and_true, true_and, and_self, m58_2 h94, c58_22 h98, c1, c2, c3, c21, x58]
        · simp only [x58, Int.toNat_natCast, Int.toNat_natCast, Nat.reduceAdd, Nat.reduceMul, Int.reduceToNat, Int.reduceAdd, Int.reduceLT, Int.reduceLE, Int.reduceEq, Int.reduceNeg, Int.reduceMul, Int.reduceSub, Nat.reduceSub, reduceIte, ite_true, ite_false, and_true, true_and, and_self, c1, c2, c3]; exact hv
    · refine ⟨G, ?_, ?_, fr1_r G⟩
      · refine e58 (by omega) ?_
        by_cases c3 : p < 0
        · simp (disch := omega) only [s58_0, s58_1, s58_5, s58_5b, s58_8, s58_9, s58_12, s58_13, s58_14, s58_17, s58_18, s58_19, s58_20, s58_25, s58_25b, s58_28, s58_30, s58_31, m58_32, m58_35, s58_38, m58_39, s58_40, s58_42, s58_42b, s58_45, s58_47, s58_48, s58_49, s58_50, s58_51, s58_52, s58_53, s58_55, m58_56, m58_59, s58_62, m58_64, s58_65, s58_67, m58_68, m58_71, s58_74, s58_76, m58_77, s58_78, s58_80, Int.toNat_natCast, Int.toNat_natCast, Nat.reduceAdd, Nat.reduceMul, Int.reduceToNat, Int.reduceAdd, Int.reduceLT, Int.reduceLE, Int.reduceEq, Int.reduceNeg, Int.reduceMul, Int.reduceSub, Nat.reduceSub, reduceIte, ite_true, ite_false, and_true, true_and, and_self, m58_2 h94, c1, c2, c3, x58, and_false]
        · have c4 : ¬ p < 4 := by omega
          simp (disch := omega) only [s58_0, s58_1, s58_5, s58_5b, s58_8, s58_9, s58_12, s58_13, s58_14, s58_17, s58_18, s58_19, s58_20, s58_25, s58_25b, s58_28, s58_30, s58_31, m58_32, m58_35, s58_38, m58_39, s58_40, s58_42, s58_42b, s58_45, s58_47, s58_48, s58_49, s58_50, s58_51, s58_52, s58_53, s58_55, m58_56, m58_59, s58_62, m58_64, s58_65, s58_67, m58_68, m58_71, s58_74, s58_76, m58_77, s58_78, s58_80, Int.toNat_natCast, Int.toNat_natCast, Nat.reduceAdd, Nat.reduceMul, Int.reduceToNat, Int.reduceAdd, Int.reduceLT, Int.reduceLE, Int.reduceEq, Int.reduceNeg, Int.reduceMul, Int.reduceSub, Nat.reduceSub, reduceIte, ite_true, ite_false, and_true, true_and, and_self, m58_2 h94, c1, c2, c3, c4, x58, and_false]
      · simp only [x58, Int.toNat_natCast, Int.toNat_natCast, Nat.reduceAdd, Nat.reduceMul, Int.reduceToNat, Int.reduceAdd, Int.reduceLT, Int.reduceLE, Int.reduceEq, Int.reduceNeg, Int.reduceMul, Int.reduceSub, Nat.reduceSub, reduceIte, ite_true, ite_false, and_true, true_and, and_self, c2, and_false]; exact hv
  · refine ⟨G, ?_, ?_, fr1_r G⟩
    · refine e58 (by omega) ?_
      simp (disch := omega) only [s58_0, s58_1, s58_5, s58_5b, s58_8, s58_9, s58_12, s58_13, s58_14, s58_17, s58_18, s58_19, s58_20, s58_25, s58_25b, s58_28, s58_30, s58_31, m58_32, m58_35, s58_38, m58_39, s58_40, s58_42, s58_42b, s58_45, s58_47, s58_48, s58_49, s58_50, s58_51, s58_52, s58_53, s58_55, m58_56, m58_59, s58_62, m58_64, s58_65, s58_67, m58_68, m58_71, s58_74, s58_76, m58_77, s58_78, s58_80, Int.toNat_natCast, Int.toNat_natCast, Nat.reduceAdd, Nat.reduceMul, Int.reduceToNat, Int.reduceAdd, Int.reduceLT, Int.reduceLE, Int.reduceEq, Int.reduceNeg, Int.reduceMul, Int.reduceSub, Nat.reduceSub, reduceIte, ite_true, ite_false, and_true, true_and, and_self, m58_2 h94, c1, x58, false_and]
    · simp only [x58, Int.toNat_natCast, Int.toNat_natCast, Nat.reduceAdd, Nat.reduceMul, Int.reduceToNat, Int.reduceAdd, Int.reduceLT, Int.reduceLE, Int.reduceEq, Int.reduceNeg, Int.reduceMul, Int.reduceSub, Nat.reduceSub, reduceIte, ite_true, ite_false, and_true, true_and, and_self, c1, false_and]; exact hv
