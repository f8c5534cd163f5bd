/-! the class's calls: of, told, fill, store, row, bell, eats, pass, strike -/
/-- a call that changes nothing: all but what is used for the asking -/
def qf (G G' : q_Gi) : Prop := ∀ a, a < 7 ∨ (14 < a ∧ a < 59) ∨ a = 62 ∨ a = 63 ∨ 64 < a → G' a = G a
theorem qf_r (G : q_Gi) : qf G G := fun _ _ => rfl
theorem qf_t {G G' G'' : q_Gi} (h1 : qf G G') (h2 : qf G' G'') : qf G G'' := fun a ha => (h2 a ha).trans (h1 a ha)
def isB (H : q_Gi) (b : Int) : Prop := 0 ≤ b ∧ b < H 0 0
def r55 (t : Int) (cl : List (Int × List Int)) (H : q_Gi) (b w : Int) : Int := if 0 ≤ b ∧ b < H 0 0 then (if w = 0 then H 1 b.toNat else if w = 1 then H 2 b.toNat else if w = 2 then H 3 b.toNat else if w = 3 then hungS H b.toNat else if w = 4 then noteS (H 1 b.toNat) (H 2 b.toNat) else if w = 5 then offS (H 1 b.toNat) (H 2 b.toNat) (H 3 b.toNat) else if w = 6 then bI (tunS t H b.toNat = true) else if 10 ≤ w ∧ w < 14 then fillS cl H b.toNat (w - 10).toNat (H 3 b.toNat) else -1) else -1
theorem sp55 {d u N L : Nat} {t g b w : Int} {cl : List (Int × List Int)} {B : q_Bv} {G H : q_Gi} (hd : 8 ≤ d) (hv : hv1 G H) (ho : Hok H) (hu : G 1 8 = (u : Int)) (hU : upl B N u t g cl) (hb : -2147483648 ≤ b ∧ b ≤ 2147483647) (hw : -2147483648 ≤ w ∧ w ≤ 2147483647) : ∃ G', Sp d 55 [.ref 0, vI b, vI w] (hp N L B G) (some (vI (r55 t cl H b w))) (hp N L B G') ∧ qf G G' := by
  have hok' := hok1_v hv ho
  have hv' := hv
  obtain ⟨v0, v6, v7, v1, v2, v3, v4, v5⟩ := hv
  have h94 := sp94 (d := d - 1) (N := N) (L := L) (B := B) (G := G) (by omega) hb (by rw [v0]; exact ho.1)
  rw [v0] at h94
  by_cases hB : 0 ≤ b ∧ b < H 0 0
  · obtain ⟨n, rfl⟩ : ∃ n : Nat, b = (n : Int) := ⟨b.toNat, by omega⟩
    have hn6 : n < 6 := by have := ho.1; omega
    have h3 := ho.2.2.2.1 n hn6
    have h6 := sp6_1 (d := d - 1) (N := N) (L := L) (B := B) (by omega) hok' hn6
    have h7 := sp7_1 (d := d - 1) (N := N) (L := L) (B := B) (by omega) hok' hn6
    have h8 := sp8_1 (d := d - 1) (N := N) (L := L) (B := B) (f := H 3 n) (by omega) hok' hn6 (by omega)
    have h9 := sp9_1 (d := d - 1) (L := L) (f := H 3 n) (by omega) hok' hu hU hn6 (by omega)
    rw [v1 n hn6, v2 n hn6, v6, v4 _ (by omega)] at h6
    rw [v1 n hn6, v2 n hn6] at h7 h8 h9
    change Sp (d - 1) 6 _ _ (some (vI (hungS H n))) _ at h6
    change Sp (d - 1) 9 _ _ (some (vI (bI (tunS t H n = true)))) _ at h9
    by_cases hW : 10 ≤ w ∧ w < 14
    · obtain ⟨e, rfl⟩ : ∃ e : Nat, w = (e : Int) + 10 := ⟨(w - 10).toNat, by omega⟩
      obtain ⟨G', h11, hf⟩ := sp11_1 (d := d - 1) (L := L) (fd := H 3 n) (b := n) (f := e) (by omega) hok' hu hU hn6 (by omega) (by omega)
      refine ⟨G', ?_, fun a ha => hf a (by omega)⟩
      refine e55 (by omega) ?_
      have n0 : ¬ ((e : Int) + 10 = 0) := by omega
      have n1 : ¬ ((e : Int) + 10 = 1) := by omega
      have n2 : ¬ ((e : Int) + 10 = 2) := by omega
      have n3 : ¬ ((e : Int) + 10 = 3) := by omega
      have n4 : ¬ ((e : Int) + 10 = 4) := by omega
      have n5 : ¬ ((e : Int) + 10 = 5) := by omega
      have n6 : ¬ ((e : Int) + 10 = 6) := by omega
      have n7 : ¬ ((e : Int) + 10 < 10) := by omega
      have e10 : (e : Int) + 10 - 10 = (e : Int) := by omega
      have e4 : 0 ≤ (e : Int) ∧ (e : Int) < 4 := by omega
      have e14 : (e : Int) + 10 < 14 := by omega
      have e11 : 10 ≤ (e : Int) + 10 := by omega
      have h95 := sp95 (d := d - 1) (z := (e : Int)) (X := hp N L B G) (by omega) (by omega)
      rw [v1 n hn6, v2 n hn6, v6] at h11
      simp (disch := omega) only [s55_0, s55_1, s55_5, s55_5b, s55_8, s55_9, s55_10, m55_11, m55_14, s55_17, m55_18, s55_19, s55_20, s55_21, s55_64, m55_65, m55_68, s55_71, m55_72, s55_73, s55_74, m55_75, m55_78, s55_81, m55_82, s55_83, s55_84, s55_85, s55_86, m55_87, s55_90, s55_94, s55_95, m55_96, s55_99, s55_103, s55_104, m55_105, s55_108, s55_109, s55_113, s55_114, m55_115, s55_118, s55_119, s55_123, s55_123b, s55_126, s55_127, s55_130, s55_131, s55_132, s55_133, s55_135, s55_138, s55_139, s55_141, s55_145, s55_145b, s55_148, m55_149, s55_152, s55_153, s55_154, s55_156, s55_157, s55_161, s55_164, s55_165, m55_2 h94, hB, Int.toNat_natCast, Int.toNat_natCast, Nat.reduceAdd, Nat.reduceMul, Int.reduceToNat, Int.reduceAdd, Int.reduceLT, Int.reduceLE, Int.reduceEq, Int.reduceNeg, Int.reduceMul, Int.reduceSub, Nat.reduceSub, reduceIte, ite_true, ite_false, and_true, true_and, and_self, v3 n hn6, n0, n1, n2, n3, n4, n5, n6, n7, e10, c55_142 h95, e4, m55_158 h11, r55, fillS, e14, e11]
    · refine ⟨G, ?_, qf_r G⟩
      have hw' : w = 0 ∨ w = 1 ∨ w = 2 ∨ w = 3 ∨ w = 4 ∨ w = 5 ∨ w = 6 ∨ (¬ w = 0 ∧ ¬ w = 1 ∧ ¬ w = 2 ∧ ¬ w = 3 ∧ ¬ w = 4 ∧ ¬ w = 5 ∧ ¬ w = 6) := by omega
      refine e55 (by omega) ?_
      simp (disch := omega) only [s55_0, s55_1, s55_5, s55_5b, s55_8, s55_9, s55_10, m55_11, m55_14, s55_17, m55_18, s55_19, s55_20, m55_2 h94, hB, Int.toNat_natCast, Int.toNat_natCast, Nat.reduceAdd, Nat.reduceMul, Int.reduceToNat, Int.reduceAdd, Int.reduceLT, Int.reduceLE, Int.reduceEq, Int.reduceNeg, Int.reduceMul, Int.reduceSub, Nat.reduceSub, reduceIte, ite_true, ite_false, and_true, true_and, and_self, v3 n hn6, r55, hW]
      rcases hw' with rfl | rfl | rfl | rfl | rfl | rfl | rfl | ⟨n0, n1, n2, n3, n4, n5, n6⟩
      · simp (disch := omega) only [s55_21, s55_64, m55_65, m55_68, s55_71, m55_72, s55_73, s55_74, m55_75, m55_78, s55_81, m55_82, s55_83, s55_84, s55_85, s55_86, m55_87, s55_90, s55_94, s55_95, m55_96, s55_99, s55_103, s55_104, m55_105, s55_108, s55_109, s55_113, s55_114, m55_115, s55_118, s55_119, s55_123, s55_123b, s55_126, s55_127, s55_130, s55_131, s55_132, Int.toNat_natCast, Int.toNat_natCast, Nat.reduceAdd, Nat.reduceMul, Int.reduceToNat, Int.reduceAdd, Int.reduceLT, Int.reduceLE, Int.reduceEq, Int.reduceNeg, Int.reduceMul, Int.reduceSub, Nat.reduceSub, reduceIte, ite_true, ite_false, and_true, true_and, and_self, v1 n hn6]
      · simp (disch := omega) only [s55_21, s55_64, m55_65, m55_68, s55_71, m55_72, s55_73, s55_74, m55_75, m55_78, s55_81, m55_82, s55_83, s55_84, s55_85, s55_86, m55_87, s55_90, s55_94, s55_95, m55_96, s55_99, s55_103, s55_104, m55_105, s55_108, s55_109, s55_113, s55_114, m55_115, s55_118, s55_119, s55_123, s55_123b, s55_126, s55_127, s55_130, s55_131, s55_132, Int.toNat_natCast, Int.toNat_natCast, Nat.reduceAdd, Nat.reduceMul, Int.reduceToNat, Int.reduceAdd, Int.reduceLT, Int.reduceLE, Int.reduceEq, Int.reduceNeg, Int.reduceMul, Int.reduceSub, Nat.reduceSub, reduceIte, ite_true, ite_false, and_true, true_and, and_self, v2 n hn6]
      · simp (disch := omega) only [s55_21, s55_64, m55_65, m55_68, s55_71, m55_72, s55_73, s55_74, m55_75, m55_78, s55_81, m55_82, s55_83, s55_84, s55_85, s55_86, m55_87, s55_90, s55_94, s55_95, m55_96, s55_99, s55_103, s55_104, m55_105, s55_108, s55_109, s55_113, s55_114, m55_115, s55_118, s55_119, s55_123, s55_123b, s55_126, s55_127, s55_130, s55_131, s55_132, Int.toNat_natCast, Int.toNat_natCast, Nat.reduceAdd, Nat.reduceMul, Int.reduceToNat, Int.reduceAdd, Int.reduceLT, Int.reduceLE, Int.reduceEq, Int.reduceNeg, Int.reduceMul, Int.reduceSub, Nat.reduceSub, reduceIte, ite_true, ite_false, and_true, true_and, and_self]
      · simp (disch := omega) only [s55_21, s55_64, m55_65, m55_68, s55_71, m55_72, s55_73, s55_74, m55_75, m55_78, s55_81, m55_82, s55_83, s55_84, s55_85, s55_86, m55_87, s55_90, s55_94, s55_95, m55_96, s55_99, s55_103, s55_104, m55_105, s55_108, s55_109, s55_113, s55_114, m55_115, s55_118, s55_119, s55_123, s55_123b, s55_126, s55_127, s55_130, s55_131, s55_132, Int.toNat_natCast, Int.toNat_natCast, Nat.reduceAdd, Nat.reduceMul, Int.reduceToNat, Int.reduceAdd, Int.reduceLT, Int.reduceLE, Int.reduceEq, Int.reduceNeg, Int.reduceMul, Int.reduceSub, Nat.reduceSub, reduceIte, ite_true, ite_false, and_true, true_and, and_self, m55_91 h6]
      · simp (disch := omega) only [s55_21, s55_64, m55_65, m55_68, s55_71, m55_72, s55_73, s55_74, m55_75, m55_78, s55_81, m55_82, s55_83, s55_84, s55_85, s55_86, m55_87, s55_90, s55_94, s55_95, m55_96, s55_99, s55_103, s55_104, m55_105, s55_108, s55_109, s55_113, s55_114, m55_115, s55_118, s55_119, s55_123, s55_123b, s55_126, s55_127, s55_130, s55_131, s55_132, Int.toNat_natCast, Int.toNat_natCast, Nat.reduceAdd, Nat.reduceMul, Int.reduceToNat, Int.reduceAdd, Int.reduceLT, Int.reduceLE, Int.reduceEq, Int.reduceNeg, Int.reduceMul, Int.reduceSub, Nat.reduceSub, reduceIte, ite_true, ite_false, and_true, true_and, and_self, m55_100 h7]
      · simp (disch := omega) only [s55_21, s55_64, m55_65, m55_68, s55_71, m55_72, s55_73, s55_74, m55_75, m55_78, s55_81, m55_82, s55_83, s55_84, s55_85, s55_86, m55_87, s55_90, s55_94, s55_95, m55_96, s55_99, s55_103, s55_104, m55_105, s55_108, s55_109, s55_113, s55_114, m55_115, s55_118, s55_119, s55_123, s55_123b, s55_126, s55_127, s55_130, s55_131, s55_132, Int.toNat_natCast, Int.toNat_natCast, Nat.reduceAdd, Nat.reduceMul, Int.reduceToNat, Int.reduceAdd, Int.reduceLT, Int.reduceLE, Int.reduceEq, Int.reduceNeg, Int.reduceMul, Int.reduceSub, Nat.reduceSub, reduceIte, ite_true, ite_false, and_true, true_and, and_self, m55_110 h8]
      · simp (disch := omega) only [s55_21, s55_64, m55_65, m55_68, s55_71, m55_72, s55_73, s55_74, m55_75, m55_78, s55_81, m55_82, s55_83, s55_84, s55_85, s55_86, m55_87, s55_90, s55_94, s55_95, m55_96, s55_99, s55_103, s55_104, m55_105, s55_108, s55_109, s55_113, s55_114, m55_115, s55_118, s55_119, s55_123, s55_123b, s55_126, s55_127, s55_130, s55_131, s55_132, Int.toNat_natCast, Int.toNat_natCast, Nat.reduceAdd, Nat.reduceMul, Int.reduceToNat, Int.reduceAdd, Int.reduceLT, Int.reduceLE, Int.reduceEq, Int.reduceNeg, Int.reduceMul, Int.reduceSub, Nat.reduceSub, reduceIte, ite_true, ite_false, and_true, true_and, and_self, m55_120 h9]
        split <;> rename_i hc
        · rw [bI_t hc]
        · rw [bI_f hc]
      · by_cases hw10 : w < 10
        · simp (disch := omega) only [s55_21, s55_64, m55_65, m55_68, s55_71, m55_72, s55_73, s55_74, m55_75, m55_78, s55_81, m55_82, s55_83, s55_84, s55_85, s55_86, m55_87, s55_90, s55_94, s55_95, m55_96, s55_99, s55_103, s55_104, m55_105, s55_108, s55_109, s55_113, s55_114, m55_115, s55_118, s55_119, s55_123, s55_123b, s55_126, s55_127, s55_130, s55_131, s55_132, s55_133, s55_135, s55_138, s55_139, s55_141, s55_145, s55_145b, s55_148, m55_149, s55_152, s55_153, s55_154, s55_156, s55_157, s55_161, s55_164, s55_165, Int.toNat_natCast, Int.toNat_natCast, Nat.reduceAdd, Nat.reduceMul, Int.reduceToNat, Int.reduceAdd, Int.reduceLT, Int.reduceLE, Int.reduceEq, Int.reduceNeg, Int.reduceMul, Int.reduceSub, Nat.reduceSub, reduceIte, ite_true, ite_false, and_true, true_and, and_self, n0, n1, n2, n3, n4, n5, n6, hw10]
        · have hw0 : ¬ (0 ≤ w - 10 ∧ w - 10 < 4) := by omega
          have h95 := sp95 (d := d - 1) (z := w - 10) (X := hp N L B G) (by omega) (by omega)
          simp (disch := omega) only [s55_21, s55_64, m55_65, m55_68, s55_71, m55_72, s55_73, s55_74, m55_75, m55_78, s55_81, m55_82, s55_83, s55_84, s55_85, s55_86, m55_87, s55_90, s55_94, s55_95, m55_96, s55_99, s55_103, s55_104, m55_105, s55_108, s55_109, s55_113, s55_114, m55_115, s55_118, s55_119, s55_123, s55_123b, s55_126, s55_127, s55_130, s55_131, s55_132, s55_133, s55_135, s55_138, s55_139, s55_141, s55_145, s55_145b, s55_148, m55_149, s55_152, s55_153, s55_154, s55_156, s55_157, s55_161, s55_164, s55_165, Int.toNat_natCast, Int.toNat_natCast, Nat.reduceAdd, Nat.reduceMul, Int.reduceToNat, Int.reduceAdd, Int.reduceLT, Int.reduceLE, Int.reduceEq, Int.reduceNeg, Int.reduceMul, Int.reduceSub, Nat.reduceSub, reduceIte, ite_true, ite_false, and_true, true_and, and_self, n0, n1, n2, n3, n4, n5, n6, hw10, c55_142 h95, hw0]
  · refine ⟨G, ?_, qf_r G⟩
    refine e55 (by omega) ?_
    simp (disch := omega) only [s55_0, s55_1, s55_5, s55_5b, s55_8, s55_9, m55_2 h94, hB, Int.toNat_natCast, Int.toNat_natCast, Nat.reduceAdd, Nat.reduceMul, Int.reduceToNat, Int.reduceAdd, Int.reduceLT, Int.reduceLE, Int.reduceEq, Int.reduceNeg, Int.reduceMul, Int.reduceSub, Nat.reduceSub, reduceIte, ite_true, ite_false, and_true, true_and, and_self, r55]
