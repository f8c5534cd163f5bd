/-! the model: act, trace, taken, count -/
def rnM (r : Nat) (G : q_Gi) (T : List Int) (G' : q_Gi) : Prop := G' 82 68 = ((r + T.length : Nat) : Int) ∧ (∀ k, k < r → G' 124 k = G 124 k) ∧ (∀ k, k < T.length → G' 124 (r + k) = T.getD k 0) ∧ (∀ a, a ≠ 82 → a ≠ 124 → G' a = G a) ∧ ∀ k, k ≠ 68 → G' 82 k = G 82 k
def apM (G : q_Gi) (r : Nat) (b : Int) : q_Gi := ug (ug G 124 r b) 82 68 ((r : Int) + 1)
theorem rnM_cons {b : Int} {r : Nat} {G G' : q_Gi} {T : List Int} (h : rnM (r + 1) (apM G r b) T G') : rnM r G (b :: T) G' := by
  obtain ⟨h1, h2, h3, h4, h5⟩ := h
  refine ⟨?_, ?_, ?_, ?_, ?_⟩
  · rw [List.length_cons, show r + (T.length + 1) = r + 1 + T.length by omega]; exact h1
  · intro k hk
    rw [h2 k (by omega)]; unfold apM; rw [ug_ne (by omega), ug_k (by omega)]
  · intro k hk
    cases k with
    | zero => rw [Nat.add_zero, h2 r (by omega)]; unfold apM; rw [ug_ne (by omega), ug_at]; rfl
    | succ k => rw [List.length_cons] at hk; rw [show r + (k + 1) = r + 1 + k by omega, h3 k (by omega)]; rfl
  · intro a a1 a2
    rw [h4 a a1 a2]; unfold apM; rw [ug_ne a1, ug_ne a2]
  · intro k hk
    rw [h5 k hk]; unfold apM; rw [ug_k hk, ug_ne (by omega)]
theorem rnM_nil {r : Nat} {G : q_Gi} (h : G 82 68 = (r : Int)) : rnM r G [] G := ⟨h, fun _ _ => rfl, fun k hk => absurd hk (Nat.not_lt_zero k), fun _ _ _ => rfl, fun _ _ => rfl⟩
theorem rnM_app {r : Nat} {G G1 G2 : q_Gi} {T1 T2 : List Int} (h1 : rnM r G T1 G1) (h2 : rnM (r + T1.length) G1 T2 G2) : rnM r G (T1 ++ T2) G2 := by
  obtain ⟨a1, a2, a3, a4, a5⟩ := h1
  obtain ⟨b1, b2, b3, b4, b5⟩ := h2
  refine ⟨?_, ?_, ?_, ?_, ?_⟩
  · rw [List.length_append, ← Nat.add_assoc]; exact b1
  · intro k hk; rw [b2 k (by omega), a2 k hk]
  · intro k hk
    rw [List.length_append] at hk
    by_cases c : k < T1.length
    · rw [b2 _ (by omega), a3 k c, List.getD_eq_getElem?_getD, List.getD_eq_getElem?_getD, List.getElem?_append_left c]
    · have := b3 (k - T1.length) (by omega)
      rw [show r + T1.length + (k - T1.length) = r + k by omega] at this
      rw [this, List.getD_eq_getElem?_getD, List.getD_eq_getElem?_getD, List.getElem?_append_right (by omega)]
  · intro a x y; rw [b4 a x y, a4 a x y]
  · intro k hk; rw [b5 k hk, a5 k hk]
theorem mv_rn {r : Nat} {G G' H : q_Gi} {T : List Int} (h : rnM r G T G') (hv : mv G H) : mv G' H := by
  obtain ⟨v0, v1, v2, vk, vv, vf, vr, vs⟩ := hv
  obtain ⟨h1, h2, h3, h4, h5⟩ := h
  exact ⟨by rw [h5 0 (by omega)]; exact v0, by rw [h5 1 (by omega)]; exact v1, by rw [h5 2 (by omega)]; exact v2, by rw [h4 83 (by omega) (by omega)]; exact vk, by rw [h4 84 (by omega) (by omega)]; exact vv, by rw [h4 85 (by omega) (by omega)]; exact vf, by rw [h4 86 (by omega) (by omega)]; exact vr, by rw [h4 87 (by omega) (by omega)]; exact vs⟩
theorem mv_ap {r : Nat} {b : Int} {G H : q_Gi} (hv : mv G H) : mv (apM G r b) H := by
  obtain ⟨v0, v1, v2, vk, vv, vf, vr, vs⟩ := hv
  unfold apM
  exact ⟨by rw [ug_k (by omega), ug_ne (by omega)]; exact v0, by rw [ug_k (by omega), ug_ne (by omega)]; exact v1, by rw [ug_k (by omega), ug_ne (by omega)]; exact v2, by rw [ug_ne (by omega), ug_ne (by omega)]; exact vk, by rw [ug_ne (by omega), ug_ne (by omega)]; exact vv, by rw [ug_ne (by omega), ug_ne (by omega)]; exact vf, by rw [ug_ne (by omega), ug_ne (by omega)]; exact vr, by rw [ug_ne (by omega), ug_ne (by omega)]; exact vs⟩
theorem ap_68 {r : Nat} {b : Int} {G : q_Gi} : apM G r b 82 68 = ((r + 1 : Nat) : Int) := by unfold apM; rw [ug_at]; rfl
theorem sp189 {d r N L : Nat} {b : Int} {B : q_Bv} {G : q_Gi} (hd : 1 ≤ d) (h : G 82 68 = (r : Int)) (hr : r ≤ 19) : Sp d 189 [.ref 82, vI b] (hp N L B G) none (hp N L B (apM G r b)) := by
  have h1 : (r : Int) < 20 := by omega
  unfold apM
  refine e189 (by omega) ?_
  simp (disch := omega) only [s189_0, m189_1, s189_4, s189_6, s189_9, m189_10, s189_13, m189_14, s189_17, m189_18, s189_19, s189_20, m189_21, s189_24, s189_25, m189_26, s189_29, Int.toNat_natCast, Int.toNat_natCast, Nat.reduceAdd, Nat.reduceMul, Int.reduceToNat, Int.reduceAdd, Int.reduceLT, Int.reduceLE, Int.reduceEq, Int.reduceNeg, Int.reduceMul, Int.reduceSub, Nat.reduceSub, reduceIte, ite_true, ite_false, and_true, true_and, and_self, h, h1, ug_ne]
theorem sp190 {d r N L : Nat} {i x : Int} {B : q_Bv} {G : q_Gi} (hd : 2 ≤ d) (h : G 82 68 = (r : Int)) (hr : r ≤ 19) : ∃ G', Sp d 190 [.ref 82, vI i, vI x] (hp N L B G) (some (vI (x + i))) (hp N L B G') ∧ rnM r G [10] G' := by
  have h189 := sp189 (d := d - 1) (N := N) (L := L) (b := 10) (B := B) (by omega) h hr
  refine ⟨apM G r 10, ?_, rnM_cons (rnM_nil ap_68)⟩
  refine e190 (by omega) ?_
  simp (disch := omega) only [s190_0, s190_1, s190_6, s190_7, s190_8, s190_9, Int.toNat_natCast, Int.toNat_natCast, Nat.reduceAdd, Nat.reduceMul, Int.reduceToNat, Int.reduceAdd, Int.reduceLT, Int.reduceLE, Int.reduceEq, Int.reduceNeg, Int.reduceMul, Int.reduceSub, Nat.reduceSub, reduceIte, ite_true, ite_false, and_true, true_and, and_self, m190_3 h189]
theorem sp191 {d r i N L : Nat} {x : Int} {B : q_Bv} {G H : q_Gi} (hd : 3 ≤ d) (hv : mv G H) (ho : Hok H) (hi : i < 6) (h : G 82 68 = (r : Int)) (hr : r ≤ 18) : ∃ G', Sp d 191 [.ref 82, vI i, vI x] (hp N L B G) (some (vI (swS (H 1 i) i (H 2 i) x).1)) (hp N L B G') ∧ rnM r G (swS (H 1 i) i (H 2 i) x).2 G' := by
  have hk := ho.2.1 i hi
  have hw := ho.2.2.1 i hi
  have vk := hv.2.2.2.1 i hi
  unfold swS
  by_cases c1 : H 1 i = 2 ∨ H 1 i = 5
  · rw [if_pos c1]
    have h189 := sp189 (d := d - 1) (N := N) (L := L) (b := 30) (B := B) (by omega) h (by omega)
    obtain ⟨G1, s1, t1⟩ := sp190 (d := d - 1) (N := N) (L := L) (B := B) (i := (i : Int)) (x := x * 3) (by omega) (@ap_68 r 30 G) (by omega)
    refine ⟨G1, ?_, rnM_cons t1⟩
    refine e191 (by omega) ?_
    rcases c1 with c1 | c1
    · simp (disch := omega) only [s191_0, m191_1, s191_4, m191_5, s191_6, s191_40, s191_41, s191_46, s191_47, s191_48, s191_49, s191_50, s191_54, s191_55, s191_56, s191_61, s191_62, s191_63, s191_67, s191_68, s191_69, s191_70, s191_75, s191_76, s191_77, s191_81, m191_82, s191_85, m191_86, s191_87, s191_88, s191_89, s191_90, s191_91, s191_95, Int.toNat_natCast, Int.toNat_natCast, Nat.reduceAdd, Nat.reduceMul, Int.reduceToNat, Int.reduceAdd, Int.reduceLT, Int.reduceLE, Int.reduceEq, Int.reduceNeg, Int.reduceMul, Int.reduceSub, Nat.reduceSub, reduceIte, ite_true, ite_false, and_true, true_and, and_self, vk, c1, m191_43 h189, m191_51 s1]
    · simp (disch := omega) only [s191_0, m191_1, s191_4, m191_5, s191_6, s191_40, s191_41, s191_46, s191_47, s191_48, s191_49, s191_50, s191_54, s191_55, s191_56, s191_61, s191_62, s191_63, s191_67, s191_68, s191_69, s191_70, s191_75, s191_76, s191_77, s191_81, m191_82, s191_85, m191_86, s191_87, s191_88, s191_89, s191_90, s191_91, s191_95, Int.toNat_natCast, Int.toNat_natCast, Nat.reduceAdd, Nat.reduceMul, Int.reduceToNat, Int.reduceAdd, Int.reduceLT, Int.reduceLE, Int.reduceEq, Int.reduceNeg, Int.reduceMul, Int.reduceSub, Nat.reduceSub, reduceIte, ite_true, ite_false, and_true, true_and, and_self, vk, c1, m191_43 h189, m191_51 s1]
  rw [if_neg c1]
  by_cases c2 : H 1 i = 4
  · rw [if_pos c2]
    have h189 := sp189 (d := d - 1) (N := N) (L := L) (b := 50) (B := B) (by omega) h (by omega)
    obtain ⟨G1, s1, t1⟩ := sp190 (d := d - 1) (N := N) (L := L) (B := B) (i := (i : Int)) (x := x) (by omega) (@ap_68 r 50 G) (by omega)
    refine ⟨G1, ?_, rnM_cons t1⟩
    refine e191 (by omega) ?_
    simp (disch := omega) only [s191_0, m191_1, s191_4, m191_5, s191_6, s191_40, s191_41, s191_46, s191_47, s191_48, s191_49, s191_50, s191_54, s191_55, s191_56, s191_61, s191_62, s191_63, s191_67, s191_68, s191_69, s191_70, s191_75, s191_76, s191_77, s191_81, m191_82, s191_85, m191_86, s191_87, s191_88, s191_89, s191_90, s191_91, s191_95, Int.toNat_natCast, Int.toNat_natCast, Nat.reduceAdd, Nat.reduceMul, Int.reduceToNat, Int.reduceAdd, Int.reduceLT, Int.reduceLE, Int.reduceEq, Int.reduceNeg, Int.reduceMul, Int.reduceSub, Nat.reduceSub, reduceIte, ite_true, ite_false, and_true, true_and, and_self, vk, c2, m191_58 h189, m191_64 s1]
  rw [if_neg c2]
  by_cases c3 : H 1 i = 6
  · rw [if_pos c3]
    have h189 := sp189 (d := d - 1) (N := N) (L := L) (b := 71) (B := B) (by omega) h (by omega)
    obtain ⟨G1, s1, t1⟩ := sp190 (d := d - 1) (N := N) (L := L) (B := B) (i := (i : Int)) (x := x) (by omega) (@ap_68 r 71 G) (by omega)
    have vv := (mv_rn t1 (mv_ap hv)).2.2.2.2.1 i hi
    refine ⟨G1, ?_, rnM_cons t1⟩
    refine e191 (by omega) ?_
    simp (disch := omega) only [s191_0, m191_1, s191_4, m191_5, s191_6, s191_40, s191_41, s191_46, s191_47, s191_48, s191_49, s191_50, s191_54, s191_55, s191_56, s191_61, s191_62, s191_63, s191_67, s191_68, s191_69, s191_70, s191_75, s191_76, s191_77, s191_81, m191_82, s191_85, m191_86, s191_87, s191_88, s191_89, s191_90, s191_91, s191_95, Int.toNat_natCast, Int.toNat_natCast, Nat.reduceAdd, Nat.reduceMul, Int.reduceToNat, Int.reduceAdd, Int.reduceLT, Int.reduceLE, Int.reduceEq, Int.reduceNeg, Int.reduceMul, Int.reduceSub, Nat.reduceSub, reduceIte, ite_true, ite_false, and_true, true_and, and_self, vk, c3, m191_72 h189, m191_78 s1, vv]
  · rw [if_neg c3]
    obtain ⟨G1, s1, t1⟩ := sp190 (d := d - 1) (N := N) (L := L) (B := B) (i := (i : Int)) (x := x) (by omega) h (by omega)
    refine ⟨G1, ?_, t1⟩
    have hk' : H 1 i = 0 ∨ H 1 i = 1 ∨ H 1 i = 3 := by omega
    refine e191 (by omega) ?_
    rcases hk' with hk' | hk' | hk'
    · simp (disch := omega) only [s191_0, m191_1, s191_4, m191_5, s191_6, s191_40, s191_41, s191_46, s191_47, s191_48, s191_49, s191_50, s191_54, s191_55, s191_56, s191_61, s191_62, s191_63, s191_67, s191_68, s191_69, s191_70, s191_75, s191_76, s191_77, s191_81, m191_82, s191_85, m191_86, s191_87, s191_88, s191_89, s191_90, s191_91, s191_95, Int.toNat_natCast, Int.toNat_natCast, Nat.reduceAdd, Nat.reduceMul, Int.reduceToNat, Int.reduceAdd, Int.reduceLT, Int.reduceLE, Int.reduceEq, Int.reduceNeg, Int.reduceMul, Int.reduceSub, Nat.reduceSub, reduceIte, ite_true, ite_false, and_true, true_and, and_self, vk, hk', m191_92 s1]
    · simp (disch := omega) only [s191_0, m191_1, s191_4, m191_5, s191_6, s191_40, s191_41, s191_46, s191_47, s191_48, s191_49, s191_50, s191_54, s191_55, s191_56, s191_61, s191_62, s191_63, s191_67, s191_68, s191_69, s191_70, s191_75, s191_76, s191_77, s191_81, m191_82, s191_85, m191_86, s191_87, s191_88, s191_89, s191_90, s191_91, s191_95, Int.toNat_natCast, Int.toNat_natCast, Nat.reduceAdd, Nat.reduceMul, Int.reduceToNat, Int.reduceAdd, Int.reduceLT, Int.reduceLE, Int.reduceEq, Int.reduceNeg, Int.reduceMul, Int.reduceSub, Nat.reduceSub, reduceIte, ite_true, ite_false, and_true, true_and, and_self, vk, hk', m191_92 s1]
    · simp (disch := omega) only [s191_0, m191_1, s191_4, m191_5, s191_6, s191_40, s191_41, s191_46, s191_47, s191_48, s191_49, s191_50, s191_54, s191_55, s191_56, s191_61, s191_62, s191_63, s191_67, s191_68, s191_69, s191_70, s191_75, s191_76, s191_77, s191_81, m191_82, s191_85, m191_86, s191_87, s191_88, s191_89, s191_90, s191_91, s191_95, Int.toNat_natCast, Int.toNat_natCast, Nat.reduceAdd, Nat.reduceMul, Int.reduceToNat, Int.reduceAdd, Int.reduceLT, Int.reduceLE, Int.reduceEq, Int.reduceNeg, Int.reduceMul, Int.reduceSub, Nat.reduceSub, reduceIte, ite_true, ite_false, and_true, true_and, and_self, vk, hk', m191_92 s1]
theorem sp192 {d r i N L : Nat} {x : Int} {B : q_Bv} {G H : q_Gi} (hd : 4 ≤ d) (hv : mv G H) (ho : Hok H) (hi : i < 6) (h : G 82 68 = (r : Int)) (hr : r ≤ 17) : ∃ G', Sp d 192 [.ref 82, vI i, vI x] (hp N L B G) (some (vI (ri0S (H 1 i) i (H 2 i) x).1)) (hp N L B G') ∧ rnM r G (ri0S (H 1 i) i (H 2 i) x).2 G' := by
  have h189 := sp189 (d := d - 1) (N := N) (L := L) (b := 11) (B := B) (by omega) h (by omega)
  obtain ⟨G1, s1, t1⟩ := sp191 (d := d - 1) (N := N) (L := L) (B := B) (x := x) (by omega) (@mv_ap r 11 G H hv) ho hi ap_68 (by omega)
  have vv := (mv_rn t1 (mv_ap hv)).2.2.2.2.1 i hi
  refine ⟨G1, ?_, rnM_cons t1⟩
  refine e192 (by omega) ?_
  simp (disch := omega) only [s192_0, s192_1, s192_6, s192_7, s192_8, s192_12, m192_13, s192_16, m192_17, s192_18, s192_19, Int.toNat_natCast, Int.toNat_natCast, Nat.reduceAdd, Nat.reduceMul, Int.reduceToNat, Int.reduceAdd, Int.reduceLT, Int.reduceLE, Int.reduceEq, Int.reduceNeg, Int.reduceMul, Int.reduceSub, Nat.reduceSub, reduceIte, ite_true, ite_false, and_true, true_and, and_self, m192_3 h189, m192_9 s1, vv]
  rfl
theorem sp193 {d r i N L : Nat} {x : Int} {B : q_Bv} {G H : q_Gi} (hd : 5 ≤ d) (hv : mv G H) (ho : Hok H) (hi : i < 6) (h : G 82 68 = (r : Int)) (hr : r ≤ 16) : ∃ G', Sp d 193 [.ref 82, vI i, vI x] (hp N L B G) (some (vI (ri1S (H 1 i) i (H 2 i) x).1)) (hp N L B G') ∧ rnM r G (ri1S (H 1 i) i (H 2 i) x).2 G' := by
  have h189 := sp189 (d := d - 1) (N := N) (L := L) (b := 20) (B := B) (by omega) h (by omega)
  obtain ⟨G1, s1, t1⟩ := sp192 (d := d - 1) (N := N) (L := L) (B := B) (x := x) (by omega) (@mv_ap r 20 G H hv) ho hi ap_68 (by omega)
  refine ⟨G1, ?_, rnM_cons t1⟩
  refine e193 (by omega) ?_
  simp (disch := omega) only [s193_0, s193_1, s193_6, s193_7, s193_8, s193_12, s193_14, s193_15, Int.toNat_natCast, Int.toNat_natCast, Nat.reduceAdd, Nat.reduceMul, Int.reduceToNat, Int.reduceAdd, Int.reduceLT, Int.reduceLE, Int.reduceEq, Int.reduceNeg, Int.reduceMul, Int.reduceSub, Nat.reduceSub, reduceIte, ite_true, ite_false, and_true, true_and, and_self, m193_3 h189, m193_9 s1]
  rfl
theorem sp194 {d r i N L : Nat} {x : Int} {B : q_Bv} {G H : q_Gi} (hd : 6 ≤ d) (hv : mv G H) (ho : Hok H) (hi : i < 6) (h : G 82 68 = (r : Int)) (hr : r ≤ 15) : ∃ G', Sp d 194 [.ref 82, vI i, vI x] (hp N L B G) (some (vI (riS (H 1 i) i (H 2 i) x).1)) (hp N L B G') ∧ rnM r G (riS (H 1 i) i (H 2 i) x).2 G' := by
  have hk := ho.2.1 i hi
  have vk := hv.2.2.2.1 i hi
  unfold riS
  by_cases c1 : H 1 i = 1
  · rw [if_pos c1]
    obtain ⟨G1, s1, t1⟩ := sp193 (d := d - 1) (N := N) (L := L) (B := B) (x := x) (by omega) hv ho hi h (by omega)
    refine ⟨G1, ?_, t1⟩
    refine e194 (by omega) ?_
    simp (disch := omega) only [s194_0, m194_1, s194_4, m194_5, s194_6, s194_40, s194_41, s194_42, s194_46, s194_47, s194_48, s194_53, s194_54, s194_55, s194_56, s194_57, s194_61, s194_62, s194_63, s194_68, s194_69, s194_70, s194_74, s194_75, s194_76, s194_77, s194_78, s194_82, s194_83, s194_84, s194_85, s194_86, s194_90, Int.toNat_natCast, Int.toNat_natCast, Nat.reduceAdd, Nat.reduceMul, Int.reduceToNat, Int.reduceAdd, Int.reduceLT, Int.reduceLE, Int.reduceEq, Int.reduceNeg, Int.reduceMul, Int.reduceSub, Nat.reduceSub, reduceIte, ite_true, ite_false, and_true, true_and, and_self, vk, c1, m194_43 s1]
  rw [if_neg c1]
  by_cases c2 : H 1 i = 4
  · rw [if_pos c2]
    have h189 := sp189 (d := d - 1) (N := N) (L := L) (b := 51) (B := B) (by omega) h (by omega)
    obtain ⟨G1, s1, t1⟩ := sp193 (d := d - 1) (N := N) (L := L) (B := B) (x := x + 1) (by omega) (@mv_ap r 51 G H hv) ho hi ap_68 (by omega)
    refine ⟨G1, ?_, rnM_cons t1⟩
    refine e194 (by omega) ?_
    simp (disch := omega) only [s194_0, m194_1, s194_4, m194_5, s194_6, s194_40, s194_41, s194_42, s194_46, s194_47, s194_48, s194_53, s194_54, s194_55, s194_56, s194_57, s194_61, s194_62, s194_63, s194_68, s194_69, s194_70, s194_74, s194_75, s194_76, s194_77, s194_78, s194_82, s194_83, s194_84, s194_85, s194_86, s194_90, Int.toNat_natCast, Int.toNat_natCast, Nat.reduceAdd, Nat.reduceMul, Int.reduceToNat, Int.reduceAdd, Int.reduceLT, Int.reduceLE, Int.reduceEq, Int.reduceNeg, Int.reduceMul, Int.reduceSub, Nat.reduceSub, reduceIte, ite_true, ite_false, and_true, true_and, and_self, vk, c2, m194_50 h189, m194_58 s1]
  rw [if_neg c2]
  by_cases c3 : H 1 i = 6
  · rw [if_pos c3]
    have h189 := sp189 (d := d - 1) (N := N) (L := L) (b := 70) (B := B) (by omega) h (by omega)
    obtain ⟨G1, s1, t1⟩ := sp192 (d := d - 1) (N := N) (L := L) (B := B) (x := x) (by omega) (@mv_ap r 70 G H hv) ho hi ap_68 (by omega)
    have hl := swS_l (H 1 i) i (H 2 i) x
    have hl2 : (ri0S (H 1 i) i (H 2 i) x).2.length ≤ 3 := by unfold ri0S; rw [List.length_cons]; omega
    obtain ⟨G2, s2, t2⟩ := sp190 (d := d - 1) (N := N) (L := L) (B := B) (i := (i : Int)) (x := 2) (by omega) t1.1 (by omega)
    refine ⟨G2, ?_, rnM_cons (rnM_app t1 t2)⟩
    refine e194 (by omega) ?_
    simp (disch := omega) only [s194_0, m194_1, s194_4, m194_5, s194_6, s194_40, s194_41, s194_42, s194_46, s194_47, s194_48, s194_53, s194_54, s194_55, s194_56, s194_57, s194_61, s194_62, s194_63, s194_68, s194_69, s194_70, s194_74, s194_75, s194_76, s194_77, s194_78, s194_82, s194_83, s194_84, s194_85, s194_86, s194_90, Int.toNat_natCast, Int.toNat_natCast, Nat.reduceAdd, Nat.reduceMul, Int.reduceToNat, Int.reduceAdd, Int.reduceLT, Int.reduceLE, Int.reduceEq, Int.reduceNeg, Int.reduceMul, Int.reduceSub, Nat.reduceSub, reduceIte, ite_true, ite_false, and_true, true_and, and_self, vk, c3, m194_65 h189, m194_71 s1, m194_79 s2]
  · rw [if_neg c3]
    obtain ⟨G1, s1, t1⟩ := sp192 (d := d - 1) (N := N) (L := L) (B := B) (x := x) (by omega) hv ho hi h (by omega)
    refine ⟨G1, ?_, t1⟩
    have hk' : H 1 i = 0 ∨ H 1 i = 2 ∨ H 1 i = 3 ∨ H 1 i = 5 := by omega
    refine e194 (by omega) ?_
    rcases hk' with hk' | hk' | hk' | hk'
    · simp (disch := omega) only [s194_0, m194_1, s194_4, m194_5, s194_6, s194_40, s194_41, s194_42, s194_46, s194_47, s194_48, s194_53, s194_54, s194_55, s194_56, s194_57, s194_61, s194_62, s194_63, s194_68, s194_69, s194_70, s194_74, s194_75, s194_76, s194_77, s194_78, s194_82, s194_83, s194_84, s194_85, s194_86, s194_90, Int.toNat_natCast, Int.toNat_natCast, Nat.reduceAdd, Nat.reduceMul, Int.reduceToNat, Int.reduceAdd, Int.reduceLT, Int.reduceLE, Int.reduceEq, Int.reduceNeg, Int.reduceMul, Int.reduceSub, Nat.reduceSub, reduceIte, ite_true, ite_false, and_true, true_and, and_self, vk, hk', m194_87 s1]
    · simp (disch := omega) only [s194_0, m194_1, s194_4, m194_5, s194_6, s194_40, s194_41, s194_42, s194_46, s194_47, s194_48, s194_53, s194_54, s194_55, s194_56, s194_57, s194_61, s194_62, s194_63, s194_68, s194_69, s194_70, s194_74, s194_75, s194_76, s194_77, s194_78, s194_82, s194_83, s194_84, s194_85, s194_86, s194_90, Int.toNat_natCast, Int.toNat_natCast, Nat.reduceAdd, Nat.reduceMul, Int.reduceToNat, Int.reduceAdd, Int.reduceLT, Int.reduceLE, Int.reduceEq, Int.reduceNeg, Int.reduceMul, Int.reduceSub, Nat.reduceSub, reduceIte, ite_true, ite_false, and_true, true_and, and_self, vk, hk', m194_87 s1]
    · simp (disch := omega) only [s194_0, m194_1, s194_4, m194_5, s194_6, s194_40, s194_41, s194_42, s194_46, s194_47, s194_48, s194_53, s194_54, s194_55, s194_56, s194_57, s194_61, s194_62, s194_63, s194_68, s194_69, s194_70, s194_74, s194_75, s194_76, s194_77, s194_78, s194_82, s194_83, s194_84, s194_85, s194_86, s194_90, Int.toNat_natCast, Int.toNat_natCast, Nat.reduceAdd, Nat.reduceMul, Int.reduceToNat, Int.reduceAdd, Int.reduceLT, Int.reduceLE, Int.reduceEq, Int.reduceNeg, Int.reduceMul, Int.reduceSub, Nat.reduceSub, reduceIte, ite_true, ite_false, and_true, true_and, and_self, vk, hk', m194_87 s1]
    · simp (disch := omega) only [s194_0, m194_1, s194_4, m194_5, s194_6, s194_40, s194_41, s194_42, s194_46, s194_47, s194_48, s194_53, s194_54, s194_55, s194_56, s194_57, s194_61, s194_62, s194_63, s194_68, s194_69, s194_70, s194_74, s194_75, s194_76, s194_77, s194_78, s194_82, s194_83, s194_84, s194_85, s194_86, s194_90, Int.toNat_natCast, Int.toNat_natCast, Nat.reduceAdd, Nat.reduceMul, Int.reduceToNat, Int.reduceAdd, Int.reduceLT, Int.reduceLE, Int.reduceEq, Int.reduceNeg, Int.reduceMul, Int.reduceSub, Nat.reduceSub, reduceIte, ite_true, ite_false, and_true, true_and, and_self, vk, hk', m194_87 s1]
theorem sp195 {d r i N L : Nat} {x : Int} {B : q_Bv} {G H : q_Gi} (hd : 7 ≤ d) (hv : mv G H) (ho : Hok H) (hi : i < 6) (h : G 82 68 = (r : Int)) (hr : r ≤ 14) : ∃ G', Sp d 195 [.ref 82, vI i, vI x] (hp N L B G) (some (vI (te0S (H 1 i) i (H 2 i) x).1)) (hp N L B G') ∧ rnM r G (te0S (H 1 i) i (H 2 i) x).2 G' := by
  have h189 := sp189 (d := d - 1) (N := N) (L := L) (b := 12) (B := B) (by omega) h (by omega)
  obtain ⟨G1, s1, t1⟩ := sp194 (d := d - 1) (N := N) (L := L) (B := B) (x := x) (by omega) (@mv_ap r 12 G H hv) ho hi ap_68 (by omega)
  refine ⟨G1, ?_, rnM_cons t1⟩
  refine e195 (by omega) ?_
  simp (disch := omega) only [s195_0, s195_1, s195_6, s195_7, s195_8, s195_12, s195_13, s195_14, Int.toNat_natCast, Int.toNat_natCast, Nat.reduceAdd, Nat.reduceMul, Int.reduceToNat, Int.reduceAdd, Int.reduceLT, Int.reduceLE, Int.reduceEq, Int.reduceNeg, Int.reduceMul, Int.reduceSub, Nat.reduceSub, reduceIte, ite_true, ite_false, and_true, true_and, and_self, m195_3 h189, m195_9 s1]
  rfl
theorem sp196 {d r i N L : Nat} {x : Int} {B : q_Bv} {G H : q_Gi} (hd : 8 ≤ d) (hv : mv G H) (ho : Hok H) (hi : i < 6) (h : G 82 68 = (r : Int)) (hr : r ≤ 5) : ∃ G', Sp d 196 [.ref 82, vI i, vI x] (hp N L B G) (some (vI (teS (H 1 i) i (H 2 i) x).1)) (hp N L B G') ∧ rnM r G (teS (H 1 i) i (H 2 i) x).2 G' := by
  have hk := ho.2.1 i hi
  have vk := hv.2.2.2.1 i hi
  unfold teS
  by_cases c1 : H 1 i = 3 ∨ H 1 i = 6
  · rw [if_pos c1]
    have h189 := sp189 (d := d - 1) (N := N) (L := L) (b := 40) (B := B) (by omega) h (by omega)
    obtain ⟨G1, s1, t1⟩ := sp195 (d := d - 1) (N := N) (L := L) (B := B) (x := x) (by omega) (@mv_ap r 40 G H hv) ho hi ap_68 (by omega)
    have hl := te0S_l (H 1 i) i (H 2 i) x
    obtain ⟨G2, s2, t2⟩ := sp194 (d := d - 1) (N := N) (L := L) (B := B) (x := 1) (by omega) (mv_rn t1 (mv_ap hv)) ho hi t1.1 (by omega)
    refine ⟨G2, ?_, rnM_cons (rnM_app t1 t2)⟩
    refine e196 (by omega) ?_
    rcases c1 with c1 | c1
    · simp (disch := omega) only [s196_0, m196_1, s196_4, m196_5, s196_6, s196_36, s196_37, s196_42, s196_43, s196_44, s196_48, s196_49, s196_50, s196_51, s196_52, s196_56, s196_57, s196_58, s196_59, s196_64, s196_65, s196_66, s196_67, s196_68, s196_72, s196_73, s196_74, s196_75, s196_79, Int.toNat_natCast, Int.toNat_natCast, Nat.reduceAdd, Nat.reduceMul, Int.reduceToNat, Int.reduceAdd, Int.reduceLT, Int.reduceLE, Int.reduceEq, Int.reduceNeg, Int.reduceMul, Int.reduceSub, Nat.reduceSub, reduceIte, ite_true, ite_false, and_true, true_and, and_self, vk, c1, m196_39 h189, m196_45 s1, m196_53 s2]
    · simp (disch := omega) only [s196_0, m196_1, s196_4, m196_5, s196_6, s196_36, s196_37, s196_42, s196_43, s196_44, s196_48, s196_49, s196_50, s196_51, s196_52, s196_56, s196_57, s196_58, s196_59, s196_64, s196_65, s196_66, s196_67, s196_68, s196_72, s196_73, s196_74, s196_75, s196_79, Int.toNat_natCast, Int.toNat_natCast, Nat.reduceAdd, Nat.reduceMul, Int.reduceToNat, Int.reduceAdd, Int.reduceLT, Int.reduceLE, Int.reduceEq, Int.reduceNeg, Int.reduceMul, Int.reduceSub, Nat.reduceSub, reduceIte, ite_true, ite_false, and_true, true_and, and_self, vk, c1, m196_39 h189, m196_45 s1, m196_53 s2]
  rw [if_neg c1]
  by_cases c2 : H 1 i = 5
  · rw [if_pos c2]
    have h189 := sp189 (d := d - 1) (N := N) (L := L) (b := 60) (B := B) (by omega) h (by omega)
    obtain ⟨G1, s1, t1⟩ := sp195 (d := d - 1) (N := N) (L := L) (B := B) (x := x - (i : Int)) (by omega) (@mv_ap r 60 G H hv) ho hi ap_68 (by omega)
    refine ⟨G1, ?_, rnM_cons t1⟩
    refine e196 (by omega) ?_
    simp (disch := omega) only [s196_0, m196_1, s196_4, m196_5, s196_6, s196_36, s196_37, s196_42, s196_43, s196_44, s196_48, s196_49, s196_50, s196_51, s196_52, s196_56, s196_57, s196_58, s196_59, s196_64, s196_65, s196_66, s196_67, s196_68, s196_72, s196_73, s196_74, s196_75, s196_79, Int.toNat_natCast, Int.toNat_natCast, Nat.reduceAdd, Nat.reduceMul, Int.reduceToNat, Int.reduceAdd, Int.reduceLT, Int.reduceLE, Int.reduceEq, Int.reduceNeg, Int.reduceMul, Int.reduceSub, Nat.reduceSub, reduceIte, ite_true, ite_false, and_true, true_and, and_self, vk, c2, m196_61 h189, m196_69 s1]
  · rw [if_neg c2]
    obtain ⟨G1, s1, t1⟩ := sp195 (d := d - 1) (N := N) (L := L) (B := B) (x := x) (by omega) hv ho hi h (by omega)
    refine ⟨G1, ?_, t1⟩
    have hk' : H 1 i = 0 ∨ H 1 i = 1 ∨ H 1 i = 2 ∨ H 1 i = 4 := by omega
    refine e196 (by omega) ?_
    rcases hk' with hk' | hk' | hk' | hk'
    · simp (disch := omega) only [s196_0, m196_1, s196_4, m196_5, s196_6, s196_36, s196_37, s196_42, s196_43, s196_44, s196_48, s196_49, s196_50, s196_51, s196_52, s196_56, s196_57, s196_58, s196_59, s196_64, s196_65, s196_66, s196_67, s196_68, s196_72, s196_73, s196_74, s196_75, s196_79, Int.toNat_natCast, Int.toNat_natCast, Nat.reduceAdd, Nat.reduceMul, Int.reduceToNat, Int.reduceAdd, Int.reduceLT, Int.reduceLE, Int.reduceEq, Int.reduceNeg, Int.reduceMul, Int.reduceSub, Nat.reduceSub, reduceIte, ite_true, ite_false, and_true, true_and, and_self, vk, hk', m196_76 s1]
    · simp (disch := omega) only [s196_0, m196_1, s196_4, m196_5, s196_6, s196_36, s196_37, s196_42, s196_43, s196_44, s196_48, s196_49, s196_50, s196_51, s196_52, s196_56, s196_57, s196_58, s196_59, s196_64, s196_65, s196_66, s196_67, s196_68, s196_72, s196_73, s196_74, s196_75, s196_79, Int.toNat_natCast, Int.toNat_natCast, Nat.reduceAdd, Nat.reduceMul, Int.reduceToNat, Int.reduceAdd, Int.reduceLT, Int.reduceLE, Int.reduceEq, Int.reduceNeg, Int.reduceMul, Int.reduceSub, Nat.reduceSub, reduceIte, ite_true, ite_false, and_true, true_and, and_self, vk, hk', m196_76 s1]
    · simp (disch := omega) only [s196_0, m196_1, s196_4, m196_5, s196_6, s196_36, s196_37, s196_42, s196_43, s196_44, s196_48, s196_49, s196_50, s196_51, s196_52, s196_56, s196_57, s196_58, s196_59, s196_64, s196_65, s196_66, s196_67, s196_68, s196_72, s196_73, s196_74, s196_75, s196_79, Int.toNat_natCast, Int.toNat_natCast, Nat.reduceAdd, Nat.reduceMul, Int.reduceToNat, Int.reduceAdd, Int.reduceLT, Int.reduceLE, Int.reduceEq, Int.reduceNeg, Int.reduceMul, Int.reduceSub, Nat.reduceSub, reduceIte, ite_true, ite_false, and_true, true_and, and_self, vk, hk', m196_76 s1]
    · simp (disch := omega) only [s196_0, m196_1, s196_4, m196_5, s196_6, s196_36, s196_37, s196_42, s196_43, s196_44, s196_48, s196_49, s196_50, s196_51, s196_52, s196_56, s196_57, s196_58, s196_59, s196_64, s196_65, s196_66, s196_67, s196_68, s196_72, s196_73, s196_74, s196_75, s196_79, Int.toNat_natCast, Int.toNat_natCast, Nat.reduceAdd, Nat.reduceMul, Int.reduceToNat, Int.reduceAdd, Int.reduceLT, Int.reduceLE, Int.reduceEq, Int.reduceNeg, Int.reduceMul, Int.reduceSub, Nat.reduceSub, reduceIte, ite_true, ite_false, and_true, true_and, and_self, vk, hk', m196_76 s1]
def mav (G : q_Gi) (T : List Int) : Prop := G 82 68 = (T.length : Int) ∧ (∀ k, k < T.length → G 124 k = T.getD k 0) ∧ T.length ≤ 20
theorem mav_of {G G' : q_Gi} {T : List Int} (h : rnM 0 G T G') (hl : T.length ≤ 20) : mav G' T := by
  obtain ⟨h3, _, h5, _⟩ := h
  refine ⟨by rw [h3, Nat.zero_add], fun k hk => ?_, hl⟩
  have := h5 k hk
  rwa [Nat.zero_add] at this
/-- act's frame -/
def ma (G G' : q_Gi) : Prop := (∀ a, a ≠ 82 → a ≠ 124 → G' a = G a) ∧ ∀ k, k ≠ 68 → G' 82 k = G 82 k
theorem sp197 {d N L : Nat} {b a x : Int} {B : q_Bv} {G H : q_Gi} (hd : 10 ≤ d) (hv : mv G H) (ho : Hok H) (hb : -2147483648 ≤ b ∧ b ≤ 2147483647) (ha : -2147483648 ≤ a ∧ a ≤ 2147483647) : ∃ G', Sp d 197 [.ref 82, vI b, vI a, vI x] (hp N L B G) (some (vI (actS H b a x).1)) (hp N L B G') ∧ mav G' (actS H b a x).2 ∧ ma G G' := by
  have hb6 := ho.1
  have v0 := hv.1
  have hv1 : mv (ug G 82 68 0) H := by
    obtain ⟨v0, v1, v2, vk, vv, vf, vr, vs⟩ := hv
    exact ⟨by rw [ug_k (by omega)]; exact v0, by rw [ug_k (by omega)]; exact v1, by rw [ug_k (by omega)]; exact v2, by rw [ug_ne (by omega)]; exact vk, by rw [ug_ne (by omega)]; exact vv, by rw [ug_ne (by omega)]; exact vf, by rw [ug_ne (by omega)]; exact vr, by rw [ug_ne (by omega)]; exact vs⟩
  have a1 := sp113 (d := d - 1) (z := b) (N := N) (L := L) (B := B) (G := ug G 82 68 0) (by omega) hb (by rw [ug_k (by omega), v0]; exact ho.1)
  rw [ug_k (by omega), v0] at a1
  have a2 := sp109 (d := d - 1) (z := a) (lo := 0) (hi := 2) (X := hp N L B (ug G 82 68 0)) (by omega) ha (by omega) (by omega)
  have h0 : ug G 82 68 0 82 68 = ((0 : Nat) : Int) := ug_at
  have nilc : ∀ e : actS H b a x = (0, []), ∃ G', G' = ug G 82 68 0 ∧ mav G' (actS H b a x).2 ∧ ma G G' := by
    intro e
    rw [e]
    exact ⟨_, rfl, ⟨by rw [ug_at]; rfl, fun k hk => absurd hk (Nat.not_lt_zero k), by simp⟩, fun a x _ => ug_ne x, fun k hk => ug_k hk⟩
  by_cases hB : 0 ≤ b ∧ b < H 0 0
  · rw [bI_t hB] at a1
    by_cases hA : 0 ≤ a ∧ a ≤ 2
    · rw [bI_t hA] at a2
      obtain ⟨n, rfl⟩ : ∃ n : Nat, b = (n : Int) := ⟨b.toNat, by omega⟩
      have hn6 : n < 6 := by omega
      unfold actS
      rw [if_pos ⟨hB, hA⟩, Int.toNat_natCast]
      have fr : ∀ (T : List Int) (G' : q_Gi), rnM 0 (ug G 82 68 0) T G' → ma G G' := fun T G' h => ⟨fun a x y => by rw [h.2.2.2.1 a x y, ug_ne x], fun k hk => by rw [h.2.2.2.2 k hk, ug_k hk]⟩
      have ha' : a = 0 ∨ a = 1 ∨ a = 2 := by omega
      rcases ha' with rfl | rfl | rfl
      · rw [if_pos rfl]
        obtain ⟨G1, s1, t1⟩ := sp191 (d := d - 1) (N := N) (L := L) (B := B) (x := x) (by omega) hv1 ho hn6 h0 (by omega)
        refine ⟨G1, ?_, mav_of t1 (by have := swS_l (H 1 n) n (H 2 n) x; omega), fr _ _ t1⟩
        refine e197 (by omega) ?_
        simp (disch := omega) only [s197_0, s197_1, m197_2, s197_5, s197_6, s197_10, s197_10b, s197_13, s197_14, s197_15, s197_16, s197_20, s197_20b, s197_23, s197_24, s197_25, s197_26, s197_26b, s197_29, s197_30, s197_31, s197_35, s197_38, s197_39, s197_40, s197_40b, s197_43, s197_44, s197_45, s197_49, s197_52, s197_53, s197_54, s197_58, Int.toNat_natCast, Int.toNat_natCast, Nat.reduceAdd, Nat.reduceMul, Int.reduceToNat, Int.reduceAdd, Int.reduceLT, Int.reduceLE, Int.reduceEq, Int.reduceNeg, Int.reduceMul, Int.reduceSub, Nat.reduceSub, reduceIte, ite_true, ite_false, and_true, true_and, and_self, m197_7 a1, m197_17 a2, m197_32 s1]
      · rw [if_neg (by omega), if_pos rfl]
        obtain ⟨G1, s1, t1⟩ := sp194 (d := d - 1) (N := N) (L := L) (B := B) (x := x) (by omega) hv1 ho hn6 h0 (by omega)
        refine ⟨G1, ?_, mav_of t1 (by have := riS_l (H 1 n) n (H 2 n) x; omega), fr _ _ t1⟩
        refine e197 (by omega) ?_
        simp (disch := omega) only [s197_0, s197_1, m197_2, s197_5, s197_6, s197_10, s197_10b, s197_13, s197_14, s197_15, s197_16, s197_20, s197_20b, s197_23, s197_24, s197_25, s197_26, s197_26b, s197_29, s197_30, s197_31, s197_35, s197_38, s197_39, s197_40, s197_40b, s197_43, s197_44, s197_45, s197_49, s197_52, s197_53, s197_54, s197_58, Int.toNat_natCast, Int.toNat_natCast, Nat.reduceAdd, Nat.reduceMul, Int.reduceToNat, Int.reduceAdd, Int.reduceLT, Int.reduceLE, Int.reduceEq, Int.reduceNeg, Int.reduceMul, Int.reduceSub, Nat.reduceSub, reduceIte, ite_true, ite_false, and_true, true_and, and_self, m197_7 a1, m197_17 a2, m197_46 s1]
      · rw [if_neg (by omega), if_neg (by omega)]
        obtain ⟨G1, s1, t1⟩ := sp196 (d := d - 1) (N := N) (L := L) (B := B) (x := x) (by omega) hv1 ho hn6 h0 (by omega)
        refine ⟨G1, ?_, mav_of t1 (by have := teS_l (H 1 n) n (H 2 n) x; omega), fr _ _ t1⟩
        refine e197 (by omega) ?_
        simp (disch := omega) only [s197_0, s197_1, m197_2, s197_5, s197_6, s197_10, s197_10b, s197_13, s197_14, s197_15, s197_16, s197_20, s197_20b, s197_23, s197_24, s197_25, s197_26, s197_26b, s197_29, s197_30, s197_31, s197_35, s197_38, s197_39, s197_40, s197_40b, s197_43, s197_44, s197_45, s197_49, s197_52, s197_53, s197_54, s197_58, Int.toNat_natCast, Int.toNat_natCast, Nat.reduceAdd, Nat.reduceMul, Int.reduceToNat, Int.reduceAdd, Int.reduceLT, Int.reduceLE, Int.reduceEq, Int.reduceNeg, Int.reduceMul, Int.reduceSub, Nat.reduceSub, reduceIte, ite_true, ite_false, and_true, true_and, and_self, m197_7 a1, m197_17 a2, m197_55 s1]
    · rw [bI_f hA] at a2
      have e : actS H b a x = (0, []) := by unfold actS; rw [if_neg (fun h => hA h.2)]
      obtain ⟨G', eG, q1, q2⟩ := nilc e
      refine ⟨G', ?_, q1, q2⟩
      rw [e, eG]
      refine e197 (by omega) ?_
      simp (disch := omega) only [s197_0, s197_1, m197_2, s197_5, s197_6, s197_10, s197_10b, s197_13, s197_14, s197_15, s197_16, s197_20, s197_20b, s197_23, s197_24, s197_25, s197_26, s197_26b, s197_29, s197_30, s197_31, s197_35, s197_38, s197_39, s197_40, s197_40b, s197_43, s197_44, s197_45, s197_49, s197_52, s197_53, s197_54, s197_58, Int.toNat_natCast, Int.toNat_natCast, Nat.reduceAdd, Nat.reduceMul, Int.reduceToNat, Int.reduceAdd, Int.reduceLT, Int.reduceLE, Int.reduceEq, Int.reduceNeg, Int.reduceMul, Int.reduceSub, Nat.reduceSub, reduceIte, ite_true, ite_false, and_true, true_and, and_self, m197_7 a1, m197_17 a2]
  · rw [bI_f hB] at a1
    have e : actS H b a x = (0, []) := by unfold actS; rw [if_neg (fun h => hB h.1)]
    obtain ⟨G', eG, q1, q2⟩ := nilc e
    refine ⟨G', ?_, q1, q2⟩
    rw [e, eG]
    refine e197 (by omega) ?_
    simp (disch := omega) only [s197_0, s197_1, m197_2, s197_5, s197_6, s197_10, s197_10b, s197_13, s197_14, s197_15, s197_16, s197_20, s197_20b, s197_23, s197_24, s197_25, s197_26, s197_26b, s197_29, s197_30, s197_31, s197_35, s197_38, s197_39, s197_40, s197_40b, s197_43, s197_44, s197_45, s197_49, s197_52, s197_53, s197_54, s197_58, Int.toNat_natCast, Int.toNat_natCast, Nat.reduceAdd, Nat.reduceMul, Int.reduceToNat, Int.reduceAdd, Int.reduceLT, Int.reduceLE, Int.reduceEq, Int.reduceNeg, Int.reduceMul, Int.reduceSub, Nat.reduceSub, reduceIte, ite_true, ite_false, and_true, true_and, and_self, m197_7 a1]
theorem sp198 {d N L : Nat} {i : Int} {B : q_Bv} {G : q_Gi} (hd : 2 ≤ d) (hr : 0 ≤ G 82 68 ∧ G 82 68 ≤ 1000) (hi : -2147483648 ≤ i ∧ i ≤ 2147483647) : Sp d 198 [.ref 82, vI i] (hp N L B G) (some (vI (r87 (G 124) (G 82 68) i))) (hp N L B G) := by
  have a1 := sp109 (d := d - 1) (z := i) (lo := 0) (hi := 19) (X := hp N L B G) (by omega) hi (by omega) (by omega)
  unfold r87
  refine e198 (by omega) ?_
  by_cases c : 0 ≤ i ∧ i ≤ 19
  · rw [bI_t c] at a1
    by_cases c2 : i < G 82 68
    · rw [if_pos ⟨c.1, c2, by omega⟩]
      simp (disch := omega) only [s198_0, s198_1, s198_2, s198_3, s198_8, s198_8b, s198_11, s198_12, m198_13, s198_16, s198_19, m198_20, s198_23, m198_24, s198_25, s198_28, s198_29, Int.toNat_natCast, Int.toNat_natCast, Nat.reduceAdd, Nat.reduceMul, Int.reduceToNat, Int.reduceAdd, Int.reduceLT, Int.reduceLE, Int.reduceEq, Int.reduceNeg, Int.reduceMul, Int.reduceSub, Nat.reduceSub, reduceIte, ite_true, ite_false, and_true, true_and, and_self, m198_5 a1, c2]
    · rw [if_neg (fun h => c2 h.2.1)]
      simp (disch := omega) only [s198_0, s198_1, s198_2, s198_3, s198_8, s198_8b, s198_11, s198_12, m198_13, s198_16, s198_19, m198_20, s198_23, m198_24, s198_25, s198_28, s198_29, Int.toNat_natCast, Int.toNat_natCast, Nat.reduceAdd, Nat.reduceMul, Int.reduceToNat, Int.reduceAdd, Int.reduceLT, Int.reduceLE, Int.reduceEq, Int.reduceNeg, Int.reduceMul, Int.reduceSub, Nat.reduceSub, reduceIte, ite_true, ite_false, and_true, true_and, and_self, m198_5 a1, c2]
  · rw [bI_f c] at a1
    rw [if_neg (fun h => c ⟨h.1, by omega⟩)]
    simp (disch := omega) only [s198_0, s198_1, s198_2, s198_3, s198_8, s198_8b, s198_11, s198_12, m198_13, s198_16, s198_19, m198_20, s198_23, m198_24, s198_25, s198_28, s198_29, Int.toNat_natCast, Int.toNat_natCast, Nat.reduceAdd, Nat.reduceMul, Int.reduceToNat, Int.reduceAdd, Int.reduceLT, Int.reduceLE, Int.reduceEq, Int.reduceNeg, Int.reduceMul, Int.reduceSub, Nat.reduceSub, reduceIte, ite_true, ite_false, and_true, true_and, and_self, m198_5 a1]
theorem sp199 {d N L : Nat} {b k : Int} {B : q_Bv} {G H : q_Gi} (hd : 4 ≤ d) (hv : mv G H) (ho : Hok H) (hb : -2147483648 ≤ b ∧ b ≤ 2147483647) (hk : -2147483648 ≤ k ∧ k ≤ 2147483647) : Sp d 199 [.ref 82, vI b, vI k] (hp N L B G) (some (vI (r88 H b k))) (hp N L B G) := by
  have v0 := hv.1
  have hb6 := ho.1
  have a1 := sp109 (d := d - 1) (z := k) (lo := 0) (hi := 6) (X := hp N L B G) (by omega) hk (by omega) (by omega)
  have a2 := sp113 (d := d - 1) (z := b) (N := N) (L := L) (B := B) (G := G) (by omega) hb (by rw [v0]; exact ho.1)
  rw [v0] at a2
  unfold r88
  by_cases c1 : 0 ≤ k ∧ k < 7
  · rw [bI_t (show 0 ≤ k ∧ k ≤ 6 by omega)] at a1
    rw [if_pos c1]
    by_cases c2 : 0 ≤ b ∧ b < H 0 0
    · rw [bI_t c2] at a2
      rw [if_pos c2]
      obtain ⟨n, rfl⟩ : ∃ n : Nat, b = (n : Int) := ⟨b.toNat, by omega⟩
      rw [Int.toNat_natCast]
      have vk := hv.2.2.2.1 n (by omega)
      have hK := ho.2.1 n (by omega)
      have hK' : H 1 n = 0 ∨ H 1 n = 1 ∨ H 1 n = 2 ∨ H 1 n = 3 ∨ H 1 n = 4 ∨ H 1 n = 5 ∨ H 1 n = 6 := by omega
      have hk' : k = 0 ∨ k = 1 ∨ k = 2 ∨ k = 3 ∨ k = 4 ∨ k = 5 ∨ k = 6 := by omega
      refine e199 (by omega) ?_
      rcases hk' with rfl | rfl | rfl | rfl | rfl | rfl | rfl
      all_goals
        rcases hK' with hK' | hK' | hK' | hK' | hK' | hK' | hK'
        all_goals
          simp (disch := omega) only [s199_0, s199_1, s199_2, s199_3, s199_8, s199_8b, s199_11, s199_13, s199_14, s199_15, s199_19, s199_19b, s199_22, s199_24, s199_25, m199_26, s199_29, m199_30, s199_31, s199_32, s199_33, s199_33b, s199_36, s199_37, s199_38, s199_38b, s199_41, s199_42, s199_43, s199_43b, s199_46, s199_47, s199_48, s199_48b, s199_51, s199_52, s199_53, s199_53b, s199_56, s199_57, s199_58, s199_58b, s199_61, s199_62, s199_63, s199_63b, s199_66, s199_67, s199_69, s199_69b, s199_72, s199_73, s199_76, s199_78, Int.toNat_natCast, Int.toNat_natCast, Nat.reduceAdd, Nat.reduceMul, Int.reduceToNat, Int.reduceAdd, Int.reduceLT, Int.reduceLE, Int.reduceEq, Int.reduceNeg, Int.reduceMul, Int.reduceSub, Nat.reduceSub, reduceIte, ite_true, ite_false, and_true, true_and, and_self, m199_5 a1, m199_16 a2, vk, hK']
          rfl
    · rw [bI_f c2] at a2
      rw [if_neg c2]
      refine e199 (by omega) ?_
      simp (disch := omega) only [s199_0, s199_1, s199_2, s199_3, s199_8, s199_8b, s199_11, s199_13, s199_14, s199_15, s199_19, s199_19b, s199_22, s199_24, s199_25, m199_26, s199_29, m199_30, s199_31, s199_32, s199_33, s199_33b, s199_36, s199_37, s199_38, s199_38b, s199_41, s199_42, s199_43, s199_43b, s199_46, s199_47, s199_48, s199_48b, s199_51, s199_52, s199_53, s199_53b, s199_56, s199_57, s199_58, s199_58b, s199_61, s199_62, s199_63, s199_63b, s199_66, s199_67, s199_69, s199_69b, s199_72, s199_73, s199_76, s199_78, Int.toNat_natCast, Int.toNat_natCast, Nat.reduceAdd, Nat.reduceMul, Int.reduceToNat, Int.reduceAdd, Int.reduceLT, Int.reduceLE, Int.reduceEq, Int.reduceNeg, Int.reduceMul, Int.reduceSub, Nat.reduceSub, reduceIte, ite_true, ite_false, and_true, true_and, and_self, m199_5 a1, m199_16 a2]
  · rw [bI_f (show ¬ (0 ≤ k ∧ k ≤ 6) by omega)] at a1
    rw [if_neg c1]
    refine e199 (by omega) ?_
    simp (disch := omega) only [s199_0, s199_1, s199_2, s199_3, s199_8, s199_8b, s199_11, s199_13, s199_14, s199_15, s199_19, s199_19b, s199_22, s199_24, s199_25, m199_26, s199_29, m199_30, s199_31, s199_32, s199_33, s199_33b, s199_36, s199_37, s199_38, s199_38b, s199_41, s199_42, s199_43, s199_43b, s199_46, s199_47, s199_48, s199_48b, s199_51, s199_52, s199_53, s199_53b, s199_56, s199_57, s199_58, s199_58b, s199_61, s199_62, s199_63, s199_63b, s199_66, s199_67, s199_69, s199_69b, s199_72, s199_73, s199_76, s199_78, Int.toNat_natCast, Int.toNat_natCast, Nat.reduceAdd, Nat.reduceMul, Int.reduceToNat, Int.reduceAdd, Int.reduceLT, Int.reduceLE, Int.reduceEq, Int.reduceNeg, Int.reduceMul, Int.reduceSub, Nat.reduceSub, reduceIte, ite_true, ite_false, and_true, true_and, and_self, m199_5 a1]
theorem sp200 {d N L : Nat} {w : Int} {B : q_Bv} {G H P : q_Gi} (hd : 1 ≤ d) (hv : mv G H) (hP : mpv G P) (hw : -2147483648 ≤ w ∧ w ≤ 2147483647) : Sp d 200 [.ref 82, vI w] (hp N L B G) (some (vI (r89 H P (G 82 8) (G 82 10) (G 82 68) w))) (hp N L B G) := by
  have v0 := hv.1
  have p0 := hP.1.1
  have p1 := hP.2.1.1
  have p2 := hP.2.2.1.1
  have p3 := hP.2.2.2.1
  have hw' : w = 0 ∨ w = 1 ∨ w = 2 ∨ w = 3 ∨ w = 4 ∨ w = 5 ∨ w = 6 ∨ w = 7 ∨ (¬ w = 0 ∧ ¬ w = 1 ∧ ¬ w = 2 ∧ ¬ w = 3 ∧ ¬ w = 4 ∧ ¬ w = 5 ∧ ¬ w = 6 ∧ ¬ w = 7) := by omega
  refine e200 (by omega) ?_
  rcases hw' with rfl | rfl | rfl | rfl | rfl | rfl | rfl | rfl | ⟨n0, n1, n2, n3, n4, n5, n6, n7⟩
  all_goals try (simp (disch := omega) only [s200_0, s200_1, s200_48, m200_49, s200_52, s200_53, m200_54, s200_57, s200_58, m200_59, s200_62, s200_63, m200_64, s200_67, s200_68, m200_69, s200_72, s200_73, m200_74, s200_77, s200_78, m200_79, s200_82, s200_83, m200_84, s200_87, s200_88, s200_90, Int.toNat_natCast, Int.toNat_natCast, Nat.reduceAdd, Nat.reduceMul, Int.reduceToNat, Int.reduceAdd, Int.reduceLT, Int.reduceLE, Int.reduceEq, Int.reduceNeg, Int.reduceMul, Int.reduceSub, Nat.reduceSub, reduceIte, ite_true, ite_false, and_true, true_and, and_self, v0, p0, p1, p2, p3]; rfl)
  have e : r89 H P (G 82 8) (G 82 10) (G 82 68) w = -2 := by unfold r89; rw [if_neg n0, if_neg n1, if_neg n2, if_neg n3, if_neg n4, if_neg n5, if_neg n6, if_neg n7]
  rw [e]
  simp (disch := omega) only [s200_0, s200_1, s200_48, m200_49, s200_52, s200_53, m200_54, s200_57, s200_58, m200_59, s200_62, s200_63, m200_64, s200_67, s200_68, m200_69, s200_72, s200_73, m200_74, s200_77, s200_78, m200_79, s200_82, s200_83, m200_84, s200_87, s200_88, s200_90, Int.toNat_natCast, Int.toNat_natCast, Nat.reduceAdd, Nat.reduceMul, Int.reduceToNat, Int.reduceAdd, Int.reduceLT, Int.reduceLE, Int.reduceEq, Int.reduceNeg, Int.reduceMul, Int.reduceSub, Nat.reduceSub, reduceIte, ite_true, ite_false, and_true, true_and, and_self, n0, n1, n2, n3, n4, n5, n6, n7]
