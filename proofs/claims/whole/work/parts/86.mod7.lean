/-! the model: bell, fill, store, row, eats, pass, strike -/
def mw (G G' : q_Gi) : Prop := (∀ a, (a < 82 ∨ 87 < a) → a ≠ 97 → G' a = G a) ∧ ∀ k, 2 < k → G' 82 k = G 82 k
theorem mw_r (G : q_Gi) : mw G G := ⟨fun _ _ _ => rfl, fun _ _ => rfl⟩
theorem mw_mf {G G' : q_Gi} (h : mf G G') : mw G G' := ⟨fun a x y => h.1 a (by omega) (by omega) (by omega) y, fun k x => h.2 k (by omega) (by omega)⟩
/-- rows that no BELL has yet are 0 -/
def zr (H : q_Gi) : Prop := ∀ k : Nat, 4 * H 0 0 ≤ (k : Int) → k < 24 → H 4 k = 0
theorem sp117 {d N L : Nat} {k v f : Int} {B : q_Bv} {G H : q_Gi} (hd : 4 ≤ d) (hv : mv G H) (ho : Hok H) (hz : zr H) (hk : -2147483648 ≤ k ∧ k ≤ 2147483647) (hv2 : -2147483648 ≤ v ∧ v ≤ 2147483647) (hf : -2147483648 ≤ f ∧ f ≤ 2147483647) : ∃ G', Sp d 117 [.ref 82, vI k, vI v, vI f] (hp N L B G) (some (vI (x54 H k v f).1)) (hp N L B G') ∧ mv G' (x54 H k v f).2 ∧ mw G G' := by
  have hv0 := hv
  have a1 := sp109 (d := d - 1) (z := k) (lo := 0) (hi := 6) (X := hp N L B G) (by omega) hk (by omega) (by omega)
  have a2 := sp109 (d := d - 1) (z := v) (lo := 0) (hi := 9) (X := hp N L B G) (by omega) hv2 (by omega) (by omega)
  have a3 := sp115 (d := d - 1) (z := f) (N := N) (L := L) (B := B) (G := G) (by omega) hf
  obtain ⟨n, hn⟩ : ∃ n : Nat, H 0 0 = (n : Int) := ⟨(H 0 0).toNat, by have := ho.1; omega⟩
  have hn6 : n ≤ 6 := by have := ho.1; omega
  have v0 := hv.1
  rw [hn] at v0
  unfold x54
  by_cases c1 : 0 ≤ k ∧ k < 7
  · rw [bI_t (show 0 ≤ k ∧ k ≤ 6 by omega)] at a1
    rw [if_pos c1]
    by_cases c2 : 0 ≤ v ∧ v ≤ 9
    · rw [bI_t c2] at a2
      by_cases c3 : 0 ≤ f ∧ f ≤ 99
      · rw [bI_t c3] at a3
        rw [if_pos ⟨c2, c3⟩]
        by_cases c4 : H 0 0 < 6
        · rw [if_pos c4]
          have c4' : ¬ (n : Int) = 6 := by omega
          have e1 : (n : Int) + 1 - 1 = (n : Int) := by omega
          obtain ⟨r1, X1, hS, G', hr, hX, q⟩ := E117 (d := d) (X := hp N L B G) (z1 := k) (z2 := v) (z3 := f) (Q := fun r1 X1 => ∃ G', r1 = some (vI (H 0 0)) ∧ X1 = hp N L B G' ∧ mv G' (addS k v f H) ∧ mw G G') (by omega) (by
            simp (disch := omega) only [s117_0, s117_1, s117_2, s117_3, s117_8, s117_8b, s117_11, s117_12, s117_13, s117_14, s117_15, s117_16, s117_21, s117_21b, s117_24, s117_25, s117_29, s117_29b, s117_32, s117_34, s117_35, m117_36, s117_39, s117_41, s117_41b, s117_44, s117_46, s117_47, m117_48, s117_51, m117_52, s117_55, m117_56, s117_57, m117_58, s117_61, m117_62, s117_65, m117_66, s117_67, m117_68, s117_71, m117_72, s117_75, m117_76, s117_77, s117_78, s117_80, s117_82, s117_83, s117_86, m117_87, s117_90, s117_91, m117_92, s117_95, s117_96, s117_98, s117_99, m117_100, s117_101, s117_104, s117_107, s117_108, m117_109, s117_112, s117_113, m117_114, s117_117, m117_118, s117_121, s117_122, s117_123, Int.toNat_natCast, Int.toNat_natCast, Nat.reduceAdd, Nat.reduceMul, Int.reduceToNat, Int.reduceAdd, Int.reduceLT, Int.reduceLE, Int.reduceEq, Int.reduceNeg, Int.reduceMul, Int.reduceSub, Nat.reduceSub, reduceIte, ite_true, ite_false, and_true, true_and, and_self, m117_5 a1, m117_18 a2, m117_26 a3, v0, c4', ug_ne, ug_at, e1]
            obtain ⟨v0', v1, v2, vk, vv, vf, vr, vs⟩ := hv0
            refine ⟨_, by rw [hn], rfl, ⟨?_, ?_, ?_, ?_, ?_, ?_, ?_, ?_⟩, ?_, ?_⟩
            · rw [ug_at]; show (n : Int) + 1 = H 0 0 + 1; rw [hn]
            · simp (disch := omega) only [ug_ne, ug_k]; exact v1
            · simp (disch := omega) only [ug_ne, ug_k]; exact v2
            · intro j hj
              simp (disch := omega) only [ug_ne]
              rw [show addS k v f H 1 j = if (j : Int) = H 0 0 then k else H 1 j from by unfold addS; simp]
              by_cases cj : j = n
              · rw [cj, ug_at, if_pos (by omega)]
              · rw [ug_k (by omega), if_neg (by omega)]
                first
                | exact vk j hj
                | (simp (disch := omega) only [ug_ne]; exact vk j hj)
            · intro j hj
              simp (disch := omega) only [ug_ne]
              rw [show addS k v f H 2 j = if (j : Int) = H 0 0 then v else H 2 j from by unfold addS; simp]
              by_cases cj : j = n
              · rw [cj, ug_at, if_pos (by omega)]
              · rw [ug_k (by omega), if_neg (by omega)]
                first
                | exact vv j hj
                | (simp (disch := omega) only [ug_ne]; exact vv j hj)
            · intro j hj
              simp (disch := omega) only [ug_ne]
              rw [show addS k v f H 3 j = if (j : Int) = H 0 0 then f else H 3 j from by unfold addS; simp]
              by_cases cj : j = n
              · rw [cj, ug_at, if_pos (by omega)]
              · rw [ug_k (by omega), if_neg (by omega)]
                first
                | exact vf j hj
                | (simp (disch := omega) only [ug_ne]; exact vf j hj)
            · intro j hj
              show _ = H 4 j
              simp (disch := omega) only [ug_ne]
              by_cases cj : 4 * n ≤ j
              · rw [hz j (by omega) hj]
                by_cases e3 : j = (4 * (n : Int) + 3).toNat
                · rw [e3, ug_at]
                rw [ug_k e3]
                by_cases e2 : j = (4 * (n : Int) + 2).toNat
                · rw [e2, ug_at]
                rw [ug_k e2]
                by_cases e1 : j = (4 * (n : Int) + 1).toNat
                · rw [e1, ug_at]
                rw [ug_k e1]
                by_cases e0 : j = (4 * (n : Int) + 0).toNat
                · rw [e0, ug_at]
                rw [ug_k e0]
                simp (disch := omega) only [ug_ne]
                rw [vr j hj, hz j (by omega) hj]
              · rw [ug_k (by omega), ug_k (by omega), ug_k (by omega), ug_k (by omega)]
                simp (disch := omega) only [ug_ne]
                exact vr j hj
            · intro j hj
              simp (disch := omega) only [ug_ne]
              exact vs j hj
            · intro a ha ha2
              simp (disch := omega) only [ug_ne]
            · intro j hj
              simp (disch := omega) only [ug_ne, ug_k])
          exact ⟨G', by rw [hr, hX] at hS; exact hS, q⟩
        · rw [if_neg c4]
          have c4' : n = 6 := by omega
          subst c4'
          refine ⟨G, ?_, hv, mw_r G⟩
          refine e117 (by omega) ?_
          simp (disch := omega) only [s117_0, s117_1, s117_2, s117_3, s117_8, s117_8b, s117_11, s117_12, s117_13, s117_14, s117_15, s117_16, s117_21, s117_21b, s117_24, s117_25, s117_29, s117_29b, s117_32, s117_34, s117_35, m117_36, s117_39, s117_41, s117_41b, s117_44, s117_46, s117_47, m117_48, s117_51, m117_52, s117_55, m117_56, s117_57, m117_58, s117_61, m117_62, s117_65, m117_66, s117_67, m117_68, s117_71, m117_72, s117_75, m117_76, s117_77, s117_78, s117_80, s117_82, s117_83, s117_86, m117_87, s117_90, s117_91, m117_92, s117_95, s117_96, s117_98, s117_99, m117_100, s117_101, s117_104, s117_107, s117_108, m117_109, s117_112, s117_113, m117_114, s117_117, m117_118, s117_121, s117_122, s117_123, Int.toNat_natCast, Int.toNat_natCast, Nat.reduceAdd, Nat.reduceMul, Int.reduceToNat, Int.reduceAdd, Int.reduceLT, Int.reduceLE, Int.reduceEq, Int.reduceNeg, Int.reduceMul, Int.reduceSub, Nat.reduceSub, reduceIte, ite_true, ite_false, and_true, true_and, and_self, m117_5 a1, m117_18 a2, m117_26 a3, v0, show ((6 : Nat) : Int) = 6 from rfl]
      · rw [bI_f c3] at a3
        rw [if_neg (fun e => c3 e.2)]
        refine ⟨G, ?_, hv, mw_r G⟩
        refine e117 (by omega) ?_
        simp (disch := omega) only [s117_0, s117_1, s117_2, s117_3, s117_8, s117_8b, s117_11, s117_12, s117_13, s117_14, s117_15, s117_16, s117_21, s117_21b, s117_24, s117_25, s117_29, s117_29b, s117_32, s117_34, Int.toNat_natCast, Int.toNat_natCast, Nat.reduceAdd, Nat.reduceMul, Int.reduceToNat, Int.reduceAdd, Int.reduceLT, Int.reduceLE, Int.reduceEq, Int.reduceNeg, Int.reduceMul, Int.reduceSub, Nat.reduceSub, reduceIte, ite_true, ite_false, and_true, true_and, and_self, m117_5 a1, m117_18 a2, m117_26 a3]
    · rw [bI_f c2] at a2
      rw [if_neg (fun e => c2 e.1)]
      refine ⟨G, ?_, hv, mw_r G⟩
      refine e117 (by omega) ?_
      simp (disch := omega) only [s117_0, s117_1, s117_2, s117_3, s117_8, s117_8b, s117_11, s117_12, s117_13, s117_14, s117_15, s117_16, s117_21, s117_21b, s117_24, s117_25, s117_29, s117_29b, s117_32, s117_34, Int.toNat_natCast, Int.toNat_natCast, Nat.reduceAdd, Nat.reduceMul, Int.reduceToNat, Int.reduceAdd, Int.reduceLT, Int.reduceLE, Int.reduceEq, Int.reduceNeg, Int.reduceMul, Int.reduceSub, Nat.reduceSub, reduceIte, ite_true, ite_false, and_true, true_and, and_self, m117_5 a1, m117_18 a2]
  · rw [bI_f (show ¬ (0 ≤ k ∧ k ≤ 6) by omega)] at a1
    rw [if_neg c1]
    refine ⟨G, ?_, hv, mw_r G⟩
    refine e117 (by omega) ?_
    simp (disch := omega) only [s117_0, s117_1, s117_2, s117_3, s117_8, s117_8b, s117_11, s117_12, Int.toNat_natCast, Int.toNat_natCast, Nat.reduceAdd, Nat.reduceMul, Int.reduceToNat, Int.reduceAdd, Int.reduceLT, Int.reduceLE, Int.reduceEq, Int.reduceNeg, Int.reduceMul, Int.reduceSub, Nat.reduceSub, reduceIte, ite_true, ite_false, and_true, true_and, and_self, m117_5 a1]
theorem mv_set3 {G H : q_Gi} {k : Nat} {z : Int} (h : mv G H) : mv (ug G 85 k z) (setS H 3 k z) := by
  obtain ⟨v0, v1, v2, vk, vv, vf, vr, vs⟩ := h
  refine ⟨by rw [ug_ne (by omega), setS_ne (by omega)]; exact v0, by rw [ug_ne (by omega), setS_ne (by omega)]; exact v1, by rw [ug_ne (by omega), setS_ne (by omega)]; exact v2, by rw [ug_ne (by omega), setS_ne (by omega)]; exact vk, by rw [ug_ne (by omega), setS_ne (by omega)]; exact vv, ?_, by rw [ug_ne (by omega), setS_ne (by omega)]; exact vr, ?_⟩
  · intro j hj
    first
    | (rw [ug_ne (by omega), setS_ne (by omega)]; exact vf j hj)
    | (by_cases c : j = k
       · rw [c, ug_at, setS_at]
       · rw [ug_k c, setS_k c]; exact vf j hj)
  · intro j hj
    first
    | (rw [ug_ne (by omega), setS_ne (by omega)]; exact vs j hj)
    | (by_cases c : j = k
       · rw [c, ug_at, setS_at]
       · rw [ug_k c, setS_k c]; exact vs j hj)
theorem mv_set5 {G H : q_Gi} {k : Nat} {z : Int} (h : mv G H) : mv (ug G 87 k z) (setS H 5 k z) := by
  obtain ⟨v0, v1, v2, vk, vv, vf, vr, vs⟩ := h
  refine ⟨by rw [ug_ne (by omega), setS_ne (by omega)]; exact v0, by rw [ug_ne (by omega), setS_ne (by omega)]; exact v1, by rw [ug_ne (by omega), setS_ne (by omega)]; exact v2, by rw [ug_ne (by omega), setS_ne (by omega)]; exact vk, by rw [ug_ne (by omega), setS_ne (by omega)]; exact vv, ?_, by rw [ug_ne (by omega), setS_ne (by omega)]; exact vr, ?_⟩
  · intro j hj
    first
    | (rw [ug_ne (by omega), setS_ne (by omega)]; exact vf j hj)
    | (by_cases c : j = k
       · rw [c, ug_at, setS_at]
       · rw [ug_k c, setS_k c]; exact vf j hj)
  · intro j hj
    first
    | (rw [ug_ne (by omega), setS_ne (by omega)]; exact vs j hj)
    | (by_cases c : j = k
       · rw [c, ug_at, setS_at]
       · rw [ug_k c, setS_k c]; exact vs j hj)
theorem mv_set4 {G H : q_Gi} {k : Nat} {z : Int} (h : mv G H) : mv (ug G 86 k z) (setS H 4 k z) := by
  obtain ⟨v0, v1, v2, vk, vv, vf, vr, vs⟩ := h
  refine ⟨by rw [ug_ne (by omega), setS_ne (by omega)]; exact v0, by rw [ug_ne (by omega), setS_ne (by omega)]; exact v1, by rw [ug_ne (by omega), setS_ne (by omega)]; exact v2, by rw [ug_ne (by omega), setS_ne (by omega)]; exact vk, by rw [ug_ne (by omega), setS_ne (by omega)]; exact vv, by rw [ug_ne (by omega), setS_ne (by omega)]; exact vf, ?_, by rw [ug_ne (by omega), setS_ne (by omega)]; exact vs⟩
  intro j hj
  by_cases c : j = k
  · rw [c, ug_at, setS_at]
  · rw [ug_k c, setS_k c]; exact vr j hj
theorem sp118 {d N L : Nat} {b n : Int} {B : q_Bv} {G H : q_Gi} (hd : 4 ≤ d) (hv : mv G H) (ho : Hok H) (hb : -2147483648 ≤ b ∧ b ≤ 2147483647) (hn : -2147483648 ≤ n ∧ n ≤ 2147483647) : ∃ G', Sp d 118 [.ref 82, vI b, vI n] (hp N L B G) (some (vI (x56 H b n).1)) (hp N L B G') ∧ mv G' (x56 H b n).2 ∧ mw G G' := by
  have v0 := hv.1
  have a1 := sp113 (d := d - 1) (z := b) (N := N) (L := L) (B := B) (G := G) (by omega) hb (by rw [v0]; exact ho.1)
  rw [v0] at a1
  have a2 := sp115 (d := d - 1) (z := n) (N := N) (L := L) (B := B) (G := G) (by omega) hn
  have hb6 := ho.1
  unfold x56
  by_cases c1 : 0 ≤ b ∧ b < H 0 0
  · rw [if_pos c1]
    rw [bI_t c1] at a1
    obtain ⟨m, rfl⟩ : ∃ m : Nat, b = (m : Int) := ⟨b.toNat, by omega⟩
    have vf := hv.2.2.2.2.2.1 m (by omega)
    by_cases c2 : 0 ≤ n ∧ n ≤ 99
    · rw [if_pos c2]
      rw [bI_t c2] at a2
      rw [Int.toNat_natCast]
      refine ⟨ug G 85 m n, ?_, mv_set3 hv, fun a ha _ => ug_ne (by omega), fun k _ => by rw [ug_ne (by omega)]⟩
      refine e118 (by omega) ?_
      simp (disch := omega) only [s118_0, s118_1, s118_5, s118_5b, s118_8, s118_9, s118_10, s118_11, s118_15, s118_15b, s118_18, s118_20, s118_21, m118_22, s118_25, m118_26, s118_27, s118_28, m118_29, s118_32, s118_33, m118_34, s118_35, s118_36, Int.toNat_natCast, Int.toNat_natCast, Nat.reduceAdd, Nat.reduceMul, Int.reduceToNat, Int.reduceAdd, Int.reduceLT, Int.reduceLE, Int.reduceEq, Int.reduceNeg, Int.reduceMul, Int.reduceSub, Nat.reduceSub, reduceIte, ite_true, ite_false, and_true, true_and, and_self, m118_2 a1, m118_12 a2, vf]
    · rw [if_neg c2]
      rw [bI_f c2] at a2
      refine ⟨G, ?_, hv, mw_r G⟩
      refine e118 (by omega) ?_
      simp (disch := omega) only [s118_0, s118_1, s118_5, s118_5b, s118_8, s118_9, s118_10, s118_11, s118_15, s118_15b, s118_18, s118_20, s118_21, m118_22, s118_25, m118_26, s118_27, s118_28, m118_29, s118_32, s118_33, m118_34, s118_35, s118_36, Int.toNat_natCast, Int.toNat_natCast, Nat.reduceAdd, Nat.reduceMul, Int.reduceToNat, Int.reduceAdd, Int.reduceLT, Int.reduceLE, Int.reduceEq, Int.reduceNeg, Int.reduceMul, Int.reduceSub, Nat.reduceSub, reduceIte, ite_true, ite_false, and_true, true_and, and_self, m118_2 a1, m118_12 a2]
  · rw [if_neg c1]
    rw [bI_f c1] at a1
    refine ⟨G, ?_, hv, mw_r G⟩
    refine e118 (by omega) ?_
    simp (disch := omega) only [s118_0, s118_1, s118_5, s118_5b, s118_8, s118_9, s118_10, s118_11, s118_15, s118_15b, s118_18, s118_20, s118_21, m118_22, s118_25, m118_26, s118_27, s118_28, m118_29, s118_32, s118_33, m118_34, s118_35, s118_36, Int.toNat_natCast, Int.toNat_natCast, Nat.reduceAdd, Nat.reduceMul, Int.reduceToNat, Int.reduceAdd, Int.reduceLT, Int.reduceLE, Int.reduceEq, Int.reduceNeg, Int.reduceMul, Int.reduceSub, Nat.reduceSub, reduceIte, ite_true, ite_false, and_true, true_and, and_self, m118_2 a1]
theorem sp119 {d N L : Nat} {b n : Int} {B : q_Bv} {G H : q_Gi} (hd : 4 ≤ d) (hv : mv G H) (hb : -2147483648 ≤ b ∧ b ≤ 2147483647) (hn : -2147483648 ≤ n ∧ n ≤ 2147483647) : ∃ G', Sp d 119 [.ref 82, vI b, vI n] (hp N L B G) (some (vI (x57 H b n).1)) (hp N L B G') ∧ mv G' (x57 H b n).2 ∧ mw G G' := by
  have a1 := sp114 (d := d - 1) (z := b) (N := N) (L := L) (B := B) (G := G) (by omega) hb
  have a2 := sp115 (d := d - 1) (z := n) (N := N) (L := L) (B := B) (G := G) (by omega) hn
  unfold x57
  by_cases c1 : 0 ≤ b ∧ b < 4
  · rw [if_pos c1]
    rw [bI_t (show 0 ≤ b ∧ b ≤ 3 by omega)] at a1
    obtain ⟨m, rfl⟩ : ∃ m : Nat, b = (m : Int) := ⟨b.toNat, by omega⟩
    have vf := hv.2.2.2.2.2.2.2 m (by omega)
    by_cases c2 : 0 ≤ n ∧ n ≤ 99
    · rw [if_pos c2]
      rw [bI_t c2] at a2
      rw [Int.toNat_natCast]
      refine ⟨ug G 87 m n, ?_, mv_set5 hv, fun a ha _ => ug_ne (by omega), fun k _ => by rw [ug_ne (by omega)]⟩
      refine e119 (by omega) ?_
      simp (disch := omega) only [s119_0, s119_1, s119_5, s119_5b, s119_8, s119_9, s119_10, s119_11, s119_15, s119_15b, s119_18, s119_20, s119_21, m119_22, s119_25, m119_26, s119_27, s119_28, m119_29, s119_32, s119_33, m119_34, s119_35, s119_36, Int.toNat_natCast, Int.toNat_natCast, Nat.reduceAdd, Nat.reduceMul, Int.reduceToNat, Int.reduceAdd, Int.reduceLT, Int.reduceLE, Int.reduceEq, Int.reduceNeg, Int.reduceMul, Int.reduceSub, Nat.reduceSub, reduceIte, ite_true, ite_false, and_true, true_and, and_self, m119_2 a1, m119_12 a2, vf]
    · rw [if_neg c2]
      rw [bI_f c2] at a2
      refine ⟨G, ?_, hv, mw_r G⟩
      refine e119 (by omega) ?_
      simp (disch := omega) only [s119_0, s119_1, s119_5, s119_5b, s119_8, s119_9, s119_10, s119_11, s119_15, s119_15b, s119_18, s119_20, s119_21, m119_22, s119_25, m119_26, s119_27, s119_28, m119_29, s119_32, s119_33, m119_34, s119_35, s119_36, Int.toNat_natCast, Int.toNat_natCast, Nat.reduceAdd, Nat.reduceMul, Int.reduceToNat, Int.reduceAdd, Int.reduceLT, Int.reduceLE, Int.reduceEq, Int.reduceNeg, Int.reduceMul, Int.reduceSub, Nat.reduceSub, reduceIte, ite_true, ite_false, and_true, true_and, and_self, m119_2 a1, m119_12 a2]
  · rw [if_neg c1]
    rw [bI_f (show ¬ (0 ≤ b ∧ b ≤ 3) by omega)] at a1
    refine ⟨G, ?_, hv, mw_r G⟩
    refine e119 (by omega) ?_
    simp (disch := omega) only [s119_0, s119_1, s119_5, s119_5b, s119_8, s119_9, s119_10, s119_11, s119_15, s119_15b, s119_18, s119_20, s119_21, m119_22, s119_25, m119_26, s119_27, s119_28, m119_29, s119_32, s119_33, m119_34, s119_35, s119_36, Int.toNat_natCast, Int.toNat_natCast, Nat.reduceAdd, Nat.reduceMul, Int.reduceToNat, Int.reduceAdd, Int.reduceLT, Int.reduceLE, Int.reduceEq, Int.reduceNeg, Int.reduceMul, Int.reduceSub, Nat.reduceSub, reduceIte, ite_true, ite_false, and_true, true_and, and_self, m119_2 a1]
theorem sp120 {d N L : Nat} {b p n : Int} {B : q_Bv} {G H : q_Gi} (hd : 4 ≤ d) (hv : mv G H) (ho : Hok H) (hb : -2147483648 ≤ b ∧ b ≤ 2147483647) (hp' : -2147483648 ≤ p ∧ p ≤ 2147483647) (hn : -2147483648 ≤ n ∧ n ≤ 2147483647) : ∃ G', Sp d 120 [.ref 82, vI b, vI p, vI n] (hp N L B G) (some (vI (x58 H b p n).1)) (hp N L B G') ∧ mv G' (x58 H b p n).2 ∧ mw G G' := by
  have v0 := hv.1
  have a1 := sp113 (d := d - 1) (z := b) (N := N) (L := L) (B := B) (G := G) (by omega) hb (by rw [v0]; exact ho.1)
  rw [v0] at a1
  have a2 := sp109 (d := d - 1) (z := p) (lo := 0) (hi := 3) (X := hp N L B G) (by omega) hp' (by omega) (by omega)
  have a3 := sp109 (d := d - 1) (z := n) (lo := 0) (hi := 9) (X := hp N L B G) (by omega) hn (by omega) (by omega)
  have hb6 := ho.1
  unfold x58
  by_cases c1 : 0 ≤ b ∧ b < H 0 0
  · rw [bI_t c1] at a1
    by_cases c2 : 0 ≤ p ∧ p < 4
    · rw [bI_t (show 0 ≤ p ∧ p ≤ 3 by omega)] at a2
      rw [if_pos ⟨c1, c2⟩]
      obtain ⟨m, rfl⟩ : ∃ m : Nat, b = (m : Int) := ⟨b.toNat, by omega⟩
      obtain ⟨q, rfl⟩ : ∃ q : Nat, p = (q : Int) := ⟨p.toNat, by omega⟩
      by_cases c3 : 0 ≤ n ∧ n ≤ 9
      · rw [bI_t c3] at a3
        rw [if_pos c3, Int.toNat_natCast, Int.toNat_natCast]
        have vk := hv.2.2.2.1 m (by omega)
        have hk := ho.2.1 m (by omega)
        have vr := hv.2.2.2.2.2.2.1 (m * 4 + q) (by omega)
        have e : (4 * (m : Int) + (q : Int)).toNat = m * 4 + q := by omega
        by_cases c4 : H 1 m = 6
        · rw [if_pos c4]
          refine ⟨ug G 86 (m * 4 + q) n, ?_, mv_set4 hv, fun a ha _ => ug_ne (by omega), fun k _ => by rw [ug_ne (by omega)]⟩
          refine e120 (by omega) ?_
          simp (disch := omega) only [s120_0, s120_1, s120_5, s120_5b, s120_8, s120_9, s120_10, s120_11, s120_15, s120_15b, s120_18, s120_19, s120_20, s120_21, s120_22, s120_23, s120_28, s120_28b, s120_31, s120_33, s120_34, m120_35, s120_38, m120_39, s120_40, s120_42, s120_42b, s120_45, s120_47, s120_48, m120_49, s120_52, s120_53, s120_54, s120_55, s120_56, m120_57, s120_58, s120_60, m120_61, s120_64, s120_65, s120_66, s120_67, s120_68, s120_69, m120_70, s120_71, s120_73, Int.toNat_natCast, Int.toNat_natCast, Nat.reduceAdd, Nat.reduceMul, Int.reduceToNat, Int.reduceAdd, Int.reduceLT, Int.reduceLE, Int.reduceEq, Int.reduceNeg, Int.reduceMul, Int.reduceSub, Nat.reduceSub, reduceIte, ite_true, ite_false, and_true, true_and, and_self, m120_2 a1, m120_12 a2, m120_25 a3, vk, c4, e, vr]
        · rw [if_neg c4]
          refine ⟨G, ?_, hv, mw_r G⟩
          refine e120 (by omega) ?_
          simp (disch := omega) only [s120_0, s120_1, s120_5, s120_5b, s120_8, s120_9, s120_10, s120_11, s120_15, s120_15b, s120_18, s120_19, s120_20, s120_21, s120_22, s120_23, s120_28, s120_28b, s120_31, s120_33, s120_34, m120_35, s120_38, m120_39, s120_40, s120_42, s120_42b, s120_45, s120_47, s120_48, m120_49, s120_52, s120_53, s120_54, s120_55, s120_56, m120_57, s120_58, s120_60, m120_61, s120_64, s120_65, s120_66, s120_67, s120_68, s120_69, m120_70, s120_71, s120_73, Int.toNat_natCast, Int.toNat_natCast, Nat.reduceAdd, Nat.reduceMul, Int.reduceToNat, Int.reduceAdd, Int.reduceLT, Int.reduceLE, Int.reduceEq, Int.reduceNeg, Int.reduceMul, Int.reduceSub, Nat.reduceSub, reduceIte, ite_true, ite_false, and_true, true_and, and_self, m120_2 a1, m120_12 a2, m120_25 a3, vk, c4]
      · rw [bI_f c3] at a3
        rw [if_neg c3]
        refine ⟨G, ?_, hv, mw_r G⟩
        refine e120 (by omega) ?_
        simp (disch := omega) only [s120_0, s120_1, s120_5, s120_5b, s120_8, s120_9, s120_10, s120_11, s120_15, s120_15b, s120_18, s120_19, s120_20, s120_21, s120_22, s120_23, s120_28, s120_28b, s120_31, s120_33, s120_34, m120_35, s120_38, m120_39, s120_40, s120_42, s120_42b, s120_45, s120_47, s120_48, m120_49, s120_52, s120_53, s120_54, s120_55, s120_56, m120_57, s120_58, s120_60, m120_61, s120_64, s120_65, s120_66, s120_67, s120_68, s120_69, m120_70, s120_71, s120_73, Int.toNat_natCast, Int.toNat_natCast, Nat.reduceAdd, Nat.reduceMul, Int.reduceToNat, Int.reduceAdd, Int.reduceLT, Int.reduceLE, Int.reduceEq, Int.reduceNeg, Int.reduceMul, Int.reduceSub, Nat.reduceSub, reduceIte, ite_true, ite_false, and_true, true_and, and_self, m120_2 a1, m120_12 a2, m120_25 a3]
    · rw [bI_f (show ¬ (0 ≤ p ∧ p ≤ 3) by omega)] at a2
      rw [if_neg (fun e => c2 e.2)]
      refine ⟨G, ?_, hv, mw_r G⟩
      refine e120 (by omega) ?_
      simp (disch := omega) only [s120_0, s120_1, s120_5, s120_5b, s120_8, s120_9, s120_10, s120_11, s120_15, s120_15b, s120_18, s120_19, s120_20, s120_21, s120_22, s120_23, s120_28, s120_28b, s120_31, s120_33, s120_34, m120_35, s120_38, m120_39, s120_40, s120_42, s120_42b, s120_45, s120_47, s120_48, m120_49, s120_52, s120_53, s120_54, s120_55, s120_56, m120_57, s120_58, s120_60, m120_61, s120_64, s120_65, s120_66, s120_67, s120_68, s120_69, m120_70, s120_71, s120_73, Int.toNat_natCast, Int.toNat_natCast, Nat.reduceAdd, Nat.reduceMul, Int.reduceToNat, Int.reduceAdd, Int.reduceLT, Int.reduceLE, Int.reduceEq, Int.reduceNeg, Int.reduceMul, Int.reduceSub, Nat.reduceSub, reduceIte, ite_true, ite_false, and_true, true_and, and_self, m120_2 a1, m120_12 a2]
  · rw [bI_f c1] at a1
    rw [if_neg (fun e => c1 e.1)]
    refine ⟨G, ?_, hv, mw_r G⟩
    refine e120 (by omega) ?_
    simp (disch := omega) only [s120_0, s120_1, s120_5, s120_5b, s120_8, s120_9, s120_10, s120_11, s120_15, s120_15b, s120_18, s120_19, s120_20, s120_21, s120_22, s120_23, s120_28, s120_28b, s120_31, s120_33, s120_34, m120_35, s120_38, m120_39, s120_40, s120_42, s120_42b, s120_45, s120_47, s120_48, m120_49, s120_52, s120_53, s120_54, s120_55, s120_56, m120_57, s120_58, s120_60, m120_61, s120_64, s120_65, s120_66, s120_67, s120_68, s120_69, m120_70, s120_71, s120_73, Int.toNat_natCast, Int.toNat_natCast, Nat.reduceAdd, Nat.reduceMul, Int.reduceToNat, Int.reduceAdd, Int.reduceLT, Int.reduceLE, Int.reduceEq, Int.reduceNeg, Int.reduceMul, Int.reduceSub, Nat.reduceSub, reduceIte, ite_true, ite_false, and_true, true_and, and_self, m120_2 a1]
theorem sp154 {d N L : Nat} {the b e : Int} {rc : List (Int × Int × List Int)} {B : q_Bv} {G H : q_Gi} (hd : 8 ≤ d) (h : ms G H the rc) (hM : G 82 26 = 99999) (he2 : H 0 2 ≤ 99999) (hb : -2147483648 ≤ b ∧ b ≤ 2147483647) (he : -2147483648 ≤ e ∧ e ≤ 2147483647) : ∃ G', Sp d 154 [.ref 82, vI b, vI e] (hp N L B G) (some (vI (x62 (clR rc) H b e).1)) (hp N L B G') ∧ mv G' (x62 (clR rc) H b e).2 ∧ mw G G' := by
  obtain ⟨hv, ho, h9, hm⟩ := h
  have v0 := hv.1
  have hb6 := ho.1
  have h02 := ho.2.2.2.2.2.2.2
  have a1 := sp113 (d := d - 1) (z := b) (N := N) (L := L) (B := B) (G := G) (by omega) hb (by rw [v0]; exact ho.1)
  rw [v0] at a1
  have a2 := sp114 (d := d - 1) (z := e) (N := N) (L := L) (B := B) (G := G) (by omega) he
  unfold x62
  by_cases c1 : 0 ≤ b ∧ b < H 0 0
  · rw [bI_t c1] at a1
    by_cases c2 : 0 ≤ e ∧ e < 4
    · rw [bI_t (show 0 ≤ e ∧ e ≤ 3 by omega)] at a2
      rw [if_pos ⟨c1, c2⟩]
      obtain ⟨m, rfl⟩ : ∃ m : Nat, b = (m : Int) := ⟨b.toNat, by omega⟩
      obtain ⟨q, rfl⟩ : ∃ q : Nat, e = (q : Int) := ⟨e.toNat, by omega⟩
      rw [Int.toNat_natCast, Int.toNat_natCast]
      have vs := hv.2.2.2.2.2.2.2 q (by omega)
      have hs := ho.2.2.2.2.2.1 q (by omega)
      by_cases c3 : H 5 q = 0
      · rw [if_pos c3]
        refine ⟨G, ?_, hv, mw_r G⟩
        refine e154 (by omega) ?_
        simp (disch := omega) only [s154_0, s154_1, s154_5, s154_5b, s154_8, s154_9, s154_13, s154_13b, s154_16, s154_17, s154_18, m154_19, s154_22, m154_23, s154_24, s154_24b, s154_27, s154_29, s154_30, s154_31, s154_32, s154_36, m154_37, s154_40, m154_41, s154_42, Int.toNat_natCast, Int.toNat_natCast, Nat.reduceAdd, Nat.reduceMul, Int.reduceToNat, Int.reduceAdd, Int.reduceLT, Int.reduceLE, Int.reduceEq, Int.reduceNeg, Int.reduceMul, Int.reduceSub, Nat.reduceSub, reduceIte, ite_true, ite_false, and_true, true_and, and_self, m154_2 a1, m154_10 a2, vs, c3]
      · rw [if_neg c3]
        obtain ⟨G1, h153, w1, f1⟩ := sp153 (d := d - 1) (b := m) (e := q) (N := N) (L := L) (B := B) (by omega) hv ho (by omega) (by omega) h9 hm hM (by omega) (by omega)
        have ee : eatM 99999 (clR rc) m q H = eatC (clR rc) m q H := by
          unfold eatM eatC
          rw [show (if H 0 2 < 99999 then H 0 2 + 1 else 99999) = min (H 0 2 + 1) 99999 by split <;> omega]
        rw [ee] at w1
        have vf := w1.2.2.2.2.2.1 m (by omega)
        refine ⟨G1, ?_, w1, mw_mf f1⟩
        refine e154 (by omega) ?_
        simp (disch := omega) only [s154_0, s154_1, s154_5, s154_5b, s154_8, s154_9, s154_13, s154_13b, s154_16, s154_17, s154_18, m154_19, s154_22, m154_23, s154_24, s154_24b, s154_27, s154_29, s154_30, s154_31, s154_32, s154_36, m154_37, s154_40, m154_41, s154_42, Int.toNat_natCast, Int.toNat_natCast, Nat.reduceAdd, Nat.reduceMul, Int.reduceToNat, Int.reduceAdd, Int.reduceLT, Int.reduceLE, Int.reduceEq, Int.reduceNeg, Int.reduceMul, Int.reduceSub, Nat.reduceSub, reduceIte, ite_true, ite_false, and_true, true_and, and_self, m154_2 a1, m154_10 a2, vs, c3, m154_33 h153, vf]
    · rw [bI_f (show ¬ (0 ≤ e ∧ e ≤ 3) by omega)] at a2
      rw [if_neg (fun e => c2 e.2)]
      refine ⟨G, ?_, hv, mw_r G⟩
      refine e154 (by omega) ?_
      simp (disch := omega) only [s154_0, s154_1, s154_5, s154_5b, s154_8, s154_9, s154_13, s154_13b, s154_16, s154_17, s154_18, m154_19, s154_22, m154_23, s154_24, s154_24b, s154_27, s154_29, s154_30, s154_31, s154_32, s154_36, m154_37, s154_40, m154_41, s154_42, Int.toNat_natCast, Int.toNat_natCast, Nat.reduceAdd, Nat.reduceMul, Int.reduceToNat, Int.reduceAdd, Int.reduceLT, Int.reduceLE, Int.reduceEq, Int.reduceNeg, Int.reduceMul, Int.reduceSub, Nat.reduceSub, reduceIte, ite_true, ite_false, and_true, true_and, and_self, m154_2 a1, m154_10 a2]
  · rw [bI_f c1] at a1
    rw [if_neg (fun e => c1 e.1)]
    refine ⟨G, ?_, hv, mw_r G⟩
    refine e154 (by omega) ?_
    simp (disch := omega) only [s154_0, s154_1, s154_5, s154_5b, s154_8, s154_9, s154_13, s154_13b, s154_16, s154_17, s154_18, m154_19, s154_22, m154_23, s154_24, s154_24b, s154_27, s154_29, s154_30, s154_31, s154_32, s154_36, m154_37, s154_40, m154_41, s154_42, Int.toNat_natCast, Int.toNat_natCast, Nat.reduceAdd, Nat.reduceMul, Int.reduceToNat, Int.reduceAdd, Int.reduceLT, Int.reduceLE, Int.reduceEq, Int.reduceNeg, Int.reduceMul, Int.reduceSub, Nat.reduceSub, reduceIte, ite_true, ite_false, and_true, true_and, and_self, m154_2 a1]
theorem days_d (g : Int) : ∀ (n : Nat) (H : q_Gi), daysS g n H 0 1 = H 0 1 + (n : Int)
  | 0, H => by rw [show ((0 : Nat) : Int) = 0 from rfl, Int.add_zero]; rfl
  | n + 1, H => by
    have := days_d g n (dayS g H)
    have e : dayS g H 0 1 = H 0 1 + 1 := rfl
    show daysS g n (dayS g H) 0 1 = _
    omega
theorem sp157 {d N L : Nat} {the n : Int} {rc : List (Int × Int × List Int)} {B : q_Bv} {G H : q_Gi} (hd : 8 ≤ d) (h : ms G H the rc) (hday : H 0 1 ≤ 9999) (hn : -2147483648 ≤ n ∧ n ≤ 2147483647) : ∃ G', Sp d 157 [.ref 82, vI n] (hp N L B G) (some (vI (x63 (lsR 3 rc 0) H n).1)) (hp N L B G') ∧ mv G' (x63 (lsR 3 rc 0) H n).2 ∧ mw G G' := by
  have h0 := h
  obtain ⟨hv, ho, h9, hm⟩ := h
  have v1 := hv.2.1
  have h01 := ho.2.2.2.2.2.2.1
  have a2 := sp116 (d := d - 1) (z := n) (N := N) (L := L) (B := B) (G := G) (by omega) hn
  unfold x63
  by_cases c1 : 0 ≤ n ∧ n ≤ 60
  · rw [bI_t c1] at a2
    rw [if_pos c1]
    by_cases c2 : H 0 1 + n ≤ 9999
    · have c2' : ¬ 9999 < H 0 1 + n := by omega
      rw [if_pos c2]
      obtain ⟨k, rfl⟩ : ∃ k : Nat, n = (k : Int) := ⟨n.toNat, by omega⟩
      rw [Int.toNat_natCast]
      obtain ⟨G2, h156, w2, f2⟩ := sp156 (d := d - 1) (n := k) (N := N) (L := L) (B := B) (by omega) h0 (by omega) (by omega)
      have w21 := w2.2.1
      rw [days_d] at w21
      refine ⟨G2, ?_, w2, mw_mf f2⟩
      refine e157 (by omega) ?_
      simp (disch := omega) only [s157_0, s157_1, s157_5, s157_5b, s157_8, s157_10, s157_11, m157_12, s157_15, s157_16, s157_17, s157_20, s157_23, s157_25, s157_26, s157_27, s157_31, m157_32, s157_35, Int.toNat_natCast, Int.toNat_natCast, Nat.reduceAdd, Nat.reduceMul, Int.reduceToNat, Int.reduceAdd, Int.reduceLT, Int.reduceLE, Int.reduceEq, Int.reduceNeg, Int.reduceMul, Int.reduceSub, Nat.reduceSub, reduceIte, ite_true, ite_false, and_true, true_and, and_self, m157_2 a2, v1, c2, c2', m157_28 h156, w21]
    · have c2' : 9999 < H 0 1 + n := by omega
      rw [if_neg c2]
      refine ⟨G, ?_, hv, mw_r G⟩
      refine e157 (by omega) ?_
      simp (disch := omega) only [s157_0, s157_1, s157_5, s157_5b, s157_8, s157_10, s157_11, m157_12, s157_15, s157_16, s157_17, s157_20, s157_23, s157_25, s157_26, s157_27, s157_31, m157_32, s157_35, Int.toNat_natCast, Int.toNat_natCast, Nat.reduceAdd, Nat.reduceMul, Int.reduceToNat, Int.reduceAdd, Int.reduceLT, Int.reduceLE, Int.reduceEq, Int.reduceNeg, Int.reduceMul, Int.reduceSub, Nat.reduceSub, reduceIte, ite_true, ite_false, and_true, true_and, and_self, m157_2 a2, v1, c2, c2']
  · rw [bI_f c1] at a2
    rw [if_neg c1]
    refine ⟨G, ?_, hv, mw_r G⟩
    refine e157 (by omega) ?_
    simp (disch := omega) only [s157_0, s157_1, s157_5, s157_5b, s157_8, s157_10, s157_11, m157_12, s157_15, s157_16, s157_17, s157_20, s157_23, s157_25, s157_26, s157_27, s157_31, m157_32, s157_35, Int.toNat_natCast, Int.toNat_natCast, Nat.reduceAdd, Nat.reduceMul, Int.reduceToNat, Int.reduceAdd, Int.reduceLT, Int.reduceLE, Int.reduceEq, Int.reduceNeg, Int.reduceMul, Int.reduceSub, Nat.reduceSub, reduceIte, ite_true, ite_false, and_true, true_and, and_self, m157_2 a2]
theorem lp158 {d N L n : Nat} {x : Int} {y : Int} {B : q_Bv} {G H : q_Gi} {Q : Option Value → q_H → Prop} (hd : 1 ≤ d) (hv : mv G H) (ho : Hok H) (hn : H 0 0 = (n : Int)) (hQ : ∀ G' : q_Gi, mv G' (strokeS H) → mf G G' → WP d 158 40 [.ref 82, vI x, vI y, vI n] [] (hp N L B G') Q) : ∀ (k i : Nat) (G' : q_Gi), i + k = n → (∀ a, a ≠ 85 → G' a = G a) → (∀ j : Nat, j < 6 → G' 85 j = if j < i then max 0 (H 3 j - 1) else H 3 j) → WP d 158 8 [.ref 82, vI x, vI y, vI i] [] (hp N L B G') Q := by
  intro k
  obtain ⟨v0, v1, v2, vk, vv, vf, vr, vs⟩ := hv
  have hn6 : n ≤ 6 := by have := ho.1; omega
  induction k with
  | zero =>
    intro i G' hi hf hg
    have hi2 : i = n := by omega
    subst hi2
    have h0 : G' 82 0 = (i : Int) := by rw [hf 82 (by omega), v0, hn]
    have hlt : ¬ ((i : Int) < (i : Int)) := by omega
    have := hQ G' ⟨by rw [hf 82 (by omega)]; exact v0, by rw [hf 82 (by omega)]; exact v1, by rw [hf 82 (by omega)]; exact v2, by rw [hf 83 (by omega)]; exact vk, by rw [hf 84 (by omega)]; exact vv, fun j hj => by
        rw [hg j hj]
        show _ = if (j : Int) < H 0 0 then max 0 (H 3 j - 1) else H 3 j
        rw [hn]; simp only [Int.ofNat_lt], by rw [hf 86 (by omega)]; exact vr, by rw [hf 87 (by omega)]; exact vs⟩ ⟨fun a _ x _ _ => hf a x, fun k _ _ => by rw [hf 82 (by omega)]⟩
    simp (disch := omega) only [s158_8, s158_9, m158_10, s158_13, Int.toNat_natCast, Int.toNat_natCast, Nat.reduceAdd, Nat.reduceMul, Int.reduceToNat, Int.reduceAdd, Int.reduceLT, Int.reduceLE, Int.reduceEq, Int.reduceNeg, Int.reduceMul, Int.reduceSub, Nat.reduceSub, reduceIte, ite_true, ite_false, and_true, true_and, and_self, h0, hlt]
    exact this
  | succ k ih =>
    intro i G' hi hf hg
    have hi6 : i < 6 := by omega
    have h0 : G' 82 0 = (n : Int) := by rw [hf 82 (by omega), v0, hn]
    have hlt : (i : Int) < (n : Int) := by omega
    have hgi := hg i hi6
    rw [if_neg (by omega)] at hgi
    have hfi := ho.2.2.2.1 i hi6
    have h111 := sp111 (d := d) (z := H 3 i - 1) (X := hp N L B G') hd (by omega)
    have := ih (i + 1) (ug G' 85 i (max 0 (H 3 i - 1))) (by omega) (fun a ha => by rw [ug_ne ha]; exact hf a ha) (fun j hj => by
      rw [ug_b]
      by_cases hji : j = i
      · subst hji
        simp
      · rw [if_neg (by omega), hg j hj]
        by_cases hj2 : j < i
        · rw [if_pos hj2, if_pos (by omega)]
        · rw [if_neg hj2, if_neg (by omega)])
    rw [show ((i + 1 : Nat) : Int) = (i : Int) + 1 from rfl] at this
    rw [s158_8]
    simp (disch := first | omega | assumption) only [s158_9, m158_10, s158_13, s158_16, m158_17, s158_20, s158_21, s158_22, m158_23, s158_26, m158_27, s158_28, s158_29, m158_33, s158_34, s158_37, Int.toNat_natCast, Int.toNat_natCast, Nat.reduceAdd, Nat.reduceMul, Int.reduceToNat, Int.reduceAdd, Int.reduceLT, Int.reduceLE, Int.reduceEq, Int.reduceNeg, Int.reduceMul, Int.reduceSub, Nat.reduceSub, reduceIte, ite_true, ite_false, and_true, true_and, and_self, h0, hlt, hgi, m158_30 h111]
    exact this
theorem sp158 {d b N L : Nat} {the : Int} {rc : List (Int × Int × List Int)} {B : q_Bv} {G H : q_Gi} (hd : 5 ≤ d) (h : ms G H the rc) (hb : b < 6) : ∃ G', Sp d 158 [.ref 82, vI b] (hp N L B G) (some (vI (bI (tunS (lsR 2 rc 9) H b = true)))) (hp N L B G') ∧ mv G' (strokeS H) ∧ mf G G' := by
  obtain ⟨hv, ho, h9, hm⟩ := h
  obtain ⟨n, hn⟩ : ∃ n : Nat, H 0 0 = (n : Int) := ⟨(H 0 0).toNat, by have := ho.1; omega⟩
  have h148 := sp148 (d := d - 1) (N := N) (L := L) (B := B) (by omega) hv ho h9 hm hb
  have h01 := bI_01 (tunS (lsR 2 rc 9) H b = true)
  generalize bI (tunS (lsR 2 rc 9) H b = true) = y at h148 h01 ⊢
  obtain ⟨r1, X1, hS, G', hr, hX, q⟩ := E158 (d := d) (X := hp N L B G) (z1 := (b : Int)) (Q := fun r1 X1 => ∃ G', r1 = some (vI y) ∧ X1 = hp N L B G' ∧ mv G' (strokeS H) ∧ mf G G') (by omega) (by
    simp (disch := omega) only [s158_0, s158_1, s158_5, s158_6, s158_7, Int.toNat_natCast, Int.toNat_natCast, Nat.reduceAdd, Nat.reduceMul, Int.reduceToNat, Int.reduceAdd, Int.reduceLT, Int.reduceLE, Int.reduceEq, Int.reduceNeg, Int.reduceMul, Int.reduceSub, Nat.reduceSub, reduceIte, ite_true, ite_false, and_true, true_and, and_self, m158_2 h148]
    refine lp158 (d := d - 1) (by omega) hv ho hn (fun G' q1 q2 => ?_) n 0 G (by omega) (fun _ _ => rfl) (fun j hj => by rw [if_neg (by omega)]; exact hv.2.2.2.2.2.1 j hj)
    simp (disch := omega) only [s158_40, s158_41, s158_41b, Int.toNat_natCast, Int.toNat_natCast, Nat.reduceAdd, Nat.reduceMul, Int.reduceToNat, Int.reduceAdd, Int.reduceLT, Int.reduceLE, Int.reduceEq, Int.reduceNeg, Int.reduceMul, Int.reduceSub, Nat.reduceSub, reduceIte, ite_true, ite_false, and_true, true_and, and_self]
    exact ⟨G', rfl, q1, q2⟩)
  exact ⟨G', by rw [hr, hX] at hS; exact hS, q⟩
theorem sp159 {d N L : Nat} {the b : Int} {rc : List (Int × Int × List Int)} {B : q_Bv} {G H : q_Gi} (hd : 8 ≤ d) (h : ms G H the rc) (hb : -2147483648 ≤ b ∧ b ≤ 2147483647) : ∃ G', Sp d 159 [.ref 82, vI b] (hp N L B G) (some (vI (x64 (lsR 2 rc 9) H b).1)) (hp N L B G') ∧ mv G' (x64 (lsR 2 rc 9) H b).2 ∧ mw G G' := by
  have h0 := h
  obtain ⟨hv, ho, h9, hm⟩ := h
  have v0 := hv.1
  have hb6 := ho.1
  have a1 := sp113 (d := d - 1) (z := b) (N := N) (L := L) (B := B) (G := G) (by omega) hb (by rw [v0]; exact ho.1)
  rw [v0] at a1
  unfold x64
  by_cases c1 : 0 ≤ b ∧ b < H 0 0
  · rw [bI_t c1] at a1
    rw [if_pos c1]
    obtain ⟨m, rfl⟩ : ∃ m : Nat, b = (m : Int) := ⟨b.toNat, by omega⟩
    rw [Int.toNat_natCast]
    obtain ⟨G1, h158, w1, f1⟩ := sp158 (d := d - 1) (N := N) (L := L) (B := B) (by omega) h0 (show m < 6 by omega)
    refine ⟨G1, ?_, w1, mw_mf f1⟩
    refine e159 (by omega) ?_
    by_cases ct : tunS (lsR 2 rc 9) H m = true
    · rw [bI_t ct] at h158 ⊢
      simp (disch := omega) only [s159_0, s159_1, s159_5, s159_5b, s159_8, s159_9, s159_12, s159_13, s159_17, s159_17b, s159_20, s159_21, s159_24, s159_25, Int.toNat_natCast, Int.toNat_natCast, Nat.reduceAdd, Nat.reduceMul, Int.reduceToNat, Int.reduceAdd, Int.reduceLT, Int.reduceLE, Int.reduceEq, Int.reduceNeg, Int.reduceMul, Int.reduceSub, Nat.reduceSub, reduceIte, ite_true, ite_false, and_true, true_and, and_self, m159_2 a1, m159_14 h158]
    · rw [bI_f ct] at h158 ⊢
      simp (disch := omega) only [s159_0, s159_1, s159_5, s159_5b, s159_8, s159_9, s159_12, s159_13, s159_17, s159_17b, s159_20, s159_21, s159_24, s159_25, Int.toNat_natCast, Int.toNat_natCast, Nat.reduceAdd, Nat.reduceMul, Int.reduceToNat, Int.reduceAdd, Int.reduceLT, Int.reduceLE, Int.reduceEq, Int.reduceNeg, Int.reduceMul, Int.reduceSub, Nat.reduceSub, reduceIte, ite_true, ite_false, and_true, true_and, and_self, m159_2 a1, m159_14 h158]
  · rw [bI_f c1] at a1
    rw [if_neg c1]
    refine ⟨G, ?_, hv, mw_r G⟩
    refine e159 (by omega) ?_
    simp (disch := omega) only [s159_0, s159_1, s159_5, s159_5b, s159_8, s159_9, s159_12, s159_13, s159_17, s159_17b, s159_20, s159_21, s159_24, s159_25, Int.toNat_natCast, Int.toNat_natCast, Nat.reduceAdd, Nat.reduceMul, Int.reduceToNat, Int.reduceAdd, Int.reduceLT, Int.reduceLE, Int.reduceEq, Int.reduceNeg, Int.reduceMul, Int.reduceSub, Nat.reduceSub, reduceIte, ite_true, ite_false, and_true, true_and, and_self, m159_2 a1]
