/-! the model: what is told by hand -/
def mr0 (G P : q_Gi) : Prop := G 82 34 = P 0 0
def mr1 (G P : q_Gi) : Prop := G 82 36 = P 0 1
def mr2 (G P : q_Gi) : Prop := G 82 40 = P 0 2
def mr3 (G P : q_Gi) : Prop := G 82 41 = P 0 3
def mpv (G P : q_Gi) : Prop := (G 82 34 = P 0 0 ∧ ∀ k, k < 10 → G 103 k = P 1 k) ∧ (G 82 36 = P 0 1 ∧ (∀ k, k < 5 → G 104 k = P 4 k) ∧ (∀ k, k < 5 → G 105 k = P 5 k) ∧ (∀ k, k < 5 → G 106 k = P 6 k)) ∧ (G 82 40 = P 0 2 ∧ (∀ k, k < 10 → G 107 k = P 7 k) ∧ (∀ k, k < 10 → G 108 k = if P 7 k = 6 then 0 else P 8 k)) ∧ (G 82 41 = P 0 3 ∧ (∀ k, k < 8 → G 109 k = P 10 k) ∧ (∀ k, k < 8 → G 110 k = P 11 k))
theorem mpv_f {G G' P : q_Gi} (h : mpv G P) (e : ∀ a, 103 ≤ a → a ≤ 110 → G' a = G a) (e2 : ∀ k, 34 ≤ k → k ≤ 41 → G' 82 k = G 82 k) : mpv G' P := by
  unfold mpv at h ⊢
  rw [e 103 (by omega) (by omega), e 104 (by omega) (by omega), e 105 (by omega) (by omega), e 106 (by omega) (by omega), e 107 (by omega) (by omega), e 108 (by omega) (by omega), e 109 (by omega) (by omega), e 110 (by omega) (by omega), e2 34 (by omega) (by omega), e2 36 (by omega) (by omega), e2 40 (by omega) (by omega), e2 41 (by omega) (by omega)]
  exact h
/-- the model's frame of what is told by hand -/
def mh (G G' : q_Gi) : Prop := (∀ a, a ≠ 82 → (a < 103 ∨ 110 < a) → G' a = G a) ∧ ∀ k, (k < 34 ∨ 41 < k) → G' 82 k = G 82 k
theorem mh_r (G : q_Gi) : mh G G := ⟨fun _ _ _ => rfl, fun _ _ => rfl⟩
theorem mpv_w0 {G P : q_Gi} (h : mpv G P) : mpv (ug G 82 34 0) (setS P 0 0 0) := by
  obtain ⟨⟨c0, c1⟩, q2, q3, q4⟩ := h
  refine ⟨⟨by rw [ug_at, setS_at], by rw [ug_ne (by omega), setS_ne (by omega)]; exact c1⟩, ?_, ?_, ?_⟩
  · simp (disch := omega) only [ug_ne, ug_k, setS_ne, setS_k]; exact q2
  · simp (disch := omega) only [ug_ne, ug_k, setS_ne, setS_k]; exact q3
  · simp (disch := omega) only [ug_ne, ug_k, setS_ne, setS_k]; exact q4
theorem mpv_w1 {G P : q_Gi} (h : mpv G P) : mpv (ug G 82 36 0) (setS P 0 1 0) := by
  obtain ⟨q1, ⟨c0, c1⟩, q3, q4⟩ := h
  refine ⟨?_, ⟨by rw [ug_at, setS_at], ?_⟩, ?_, ?_⟩
  · simp (disch := omega) only [ug_ne, ug_k, setS_ne, setS_k]; exact q1
  · simp (disch := omega) only [ug_ne, ug_k, setS_ne, setS_k]; exact c1
  · simp (disch := omega) only [ug_ne, ug_k, setS_ne, setS_k]; exact q3
  · simp (disch := omega) only [ug_ne, ug_k, setS_ne, setS_k]; exact q4
theorem mpv_w2 {G P : q_Gi} (h : mpv G P) : mpv (ug G 82 40 0) (setS P 0 2 0) := by
  obtain ⟨q1, q2, ⟨c0, c1⟩, q4⟩ := h
  refine ⟨?_, ?_, ⟨by rw [ug_at, setS_at], ?_⟩, ?_⟩
  · simp (disch := omega) only [ug_ne, ug_k, setS_ne, setS_k]; exact q1
  · simp (disch := omega) only [ug_ne, ug_k, setS_ne, setS_k]; exact q2
  · simp (disch := omega) only [ug_ne, ug_k, setS_ne, setS_k]; exact c1
  · simp (disch := omega) only [ug_ne, ug_k, setS_ne, setS_k]; exact q4
theorem mpv_w3 {G P : q_Gi} (h : mpv G P) : mpv (ug G 82 41 0) (setS P 0 3 0) := by
  obtain ⟨q1, q2, q3, ⟨c0, c1⟩⟩ := h
  refine ⟨?_, ?_, ?_, ⟨by rw [ug_at, setS_at], ?_⟩⟩
  · simp (disch := omega) only [ug_ne, ug_k, setS_ne, setS_k]; exact q1
  · simp (disch := omega) only [ug_ne, ug_k, setS_ne, setS_k]; exact q2
  · simp (disch := omega) only [ug_ne, ug_k, setS_ne, setS_k]; exact q3
  · simp (disch := omega) only [ug_ne, ug_k, setS_ne, setS_k]; exact c1
theorem mpv_a0 {G P : q_Gi} {n : Nat} {b x y : Int} (h : mpv G P) (hn : P 0 0 = (n : Int)) : mpv (ug (ug G 103 n b) 82 34 ((n : Int) + 1)) (addP0 P b x y) := by
  obtain ⟨⟨c0, c1⟩, q2, q3, q4⟩ := h
  unfold addP0
  rw [hn, Int.toNat_natCast]
  refine ⟨⟨by rw [ug_at, setS_at], ?_⟩, ?_, ?_, ?_⟩
  · intro k hk
    simp (disch := omega) only [ug_ne, setS_ne]
    by_cases e : k = n
    · rw [e, ug_at, setS_at]
    · rw [ug_k e, setS_k e]; exact c1 k hk
  · simp (disch := omega) only [ug_ne, ug_k, setS_ne, setS_k]; exact q2
  · simp (disch := omega) only [ug_ne, ug_k, setS_ne, setS_k]; exact q3
  · simp (disch := omega) only [ug_ne, ug_k, setS_ne, setS_k]; exact q4
theorem mpv_a1 {G P : q_Gi} {n : Nat} {b x y : Int} (h : mpv G P) (hn : P 0 1 = (n : Int)) : mpv (ug (ug (ug (ug G 104 n b) 105 n x) 106 n y) 82 36 ((n : Int) + 1)) (addP1 P b x y) := by
  obtain ⟨q1, ⟨c0, c1, c2, c3⟩, q3, q4⟩ := h
  unfold addP1
  rw [hn, Int.toNat_natCast]
  refine ⟨?_, ⟨by rw [ug_at, setS_at], ?_, ?_, ?_⟩, ?_, ?_⟩
  · simp (disch := omega) only [ug_ne, ug_k, setS_ne, setS_k]; exact q1
  · intro k hk
    simp (disch := omega) only [ug_ne, setS_ne]
    by_cases e : k = n
    · rw [e, ug_at, setS_at]
    · rw [ug_k e, setS_k e]; exact c1 k hk
  · intro k hk
    simp (disch := omega) only [ug_ne, setS_ne]
    by_cases e : k = n
    · rw [e, ug_at, setS_at]
    · rw [ug_k e, setS_k e, ug_ne (by omega), setS_ne (by omega)]; exact c2 k hk
  · intro k hk
    simp (disch := omega) only [ug_ne, setS_ne]
    by_cases e : k = n
    · rw [e, ug_at, setS_at]
    · rw [ug_k e, setS_k e, ug_ne (by omega), setS_ne (by omega), ug_ne (by omega), setS_ne (by omega)]; exact c3 k hk
  · simp (disch := omega) only [ug_ne, ug_k, setS_ne, setS_k]; exact q3
  · simp (disch := omega) only [ug_ne, ug_k, setS_ne, setS_k]; exact q4
theorem mpv_a2 {G P : q_Gi} {n : Nat} {b x y z : Int} (h : mpv G P) (hn : P 0 2 = (n : Int)) (hz : z = if b = 6 then 0 else x) : mpv (ug (ug (ug G 107 n b) 108 n z) 82 40 ((n : Int) + 1)) (addP2 P b x y) := by
  obtain ⟨q1, q2, ⟨c0, c1, c2⟩, q4⟩ := h
  unfold addP2
  rw [hn, Int.toNat_natCast]
  refine ⟨?_, ?_, ⟨by rw [ug_at, setS_at], ?_, ?_⟩, ?_⟩
  · simp (disch := omega) only [ug_ne, ug_k, setS_ne, setS_k]; exact q1
  · simp (disch := omega) only [ug_ne, ug_k, setS_ne, setS_k]; exact q2
  · intro k hk
    simp (disch := omega) only [ug_ne, setS_ne]
    by_cases e : k = n
    · rw [e, ug_at, setS_at]
    · rw [ug_k e, setS_k e]; exact c1 k hk
  · intro k hk
    simp (disch := omega) only [ug_ne, setS_ne]
    by_cases e : k = n
    · rw [e, ug_at, setS_at, setS_at]; exact hz
    · rw [ug_k e, setS_k e, setS_k e, ug_ne (by omega), setS_ne (by omega)]; exact c2 k hk
  · simp (disch := omega) only [ug_ne, ug_k, setS_ne, setS_k]; exact q4
theorem mpv_a3 {G P : q_Gi} {n : Nat} {b x y : Int} (h : mpv G P) (hn : P 0 3 = (n : Int)) : mpv (ug (ug (ug G 109 n b) 110 n x) 82 41 ((n : Int) + 1)) (addP3 P b x y) := by
  obtain ⟨q1, q2, q3, ⟨c0, c1, c2⟩⟩ := h
  unfold addP3
  rw [hn, Int.toNat_natCast]
  refine ⟨?_, ?_, ?_, ⟨by rw [ug_at, setS_at], ?_, ?_⟩⟩
  · simp (disch := omega) only [ug_ne, ug_k, setS_ne, setS_k]; exact q1
  · simp (disch := omega) only [ug_ne, ug_k, setS_ne, setS_k]; exact q2
  · simp (disch := omega) only [ug_ne, ug_k, setS_ne, setS_k]; exact q3
  · intro k hk
    simp (disch := omega) only [ug_ne, setS_ne]
    by_cases e : k = n
    · rw [e, ug_at, setS_at]
    · rw [ug_k e, setS_k e]; exact c1 k hk
  · intro k hk
    simp (disch := omega) only [ug_ne, setS_ne]
    by_cases e : k = n
    · rw [e, ug_at, setS_at]
    · rw [ug_k e, setS_k e, ug_ne (by omega), setS_ne (by omega)]; exact c2 k hk
theorem sp172 {d N L : Nat} {b : Int} {B : q_Bv} {G H P : q_Gi} (hd : 4 ≤ d) (hv : mv G H) (ho : Hok H) (hp' : mpv G P) (hP : Pok P) (hb : -2147483648 ≤ b ∧ b ≤ 2147483647) : ∃ G', Sp d 172 [.ref 82, vI b] (hp N L B G) (some (vI (r72 H P b).1)) (hp N L B G') ∧ mpv G' (r72 H P b).2 ∧ mh G G' := by
  have v0 := hv.1
  have hb6 := ho.1
  have a1 := sp113 (d := d - 1) (z := b) (N := N) (L := L) (B := B) (G := G) (by omega) hb (by rw [v0]; exact ho.1)
  rw [v0] at a1
  have hPr := hP.1
  obtain ⟨n, hn⟩ : ∃ n : Nat, P 0 0 = (n : Int) := ⟨(P 0 0).toNat, by omega⟩
  have c0 := hp'.1.1
  rw [hn] at c0
  unfold r72
  by_cases cm : b = -1
  · subst cm
    rw [if_pos rfl]
    refine ⟨ug G 82 34 0, ?_, mpv_w0 hp', ⟨fun a x _ => ug_ne x, fun k x => ug_k (by omega)⟩⟩
    refine e172 (by omega) ?_
    simp (disch := omega) only [s172_0, s172_1, s172_2, s172_2b, s172_5, s172_6, m172_7, s172_10, s172_11, s172_12, s172_13, s172_17, s172_17b, s172_20, s172_21, s172_22, m172_23, s172_26, s172_28, s172_28b, s172_31, s172_33, s172_34, m172_35, s172_38, m172_39, s172_42, m172_43, s172_44, s172_45, m172_46, s172_49, s172_50, m172_51, s172_54, m172_55, s172_58, Int.toNat_natCast, Int.toNat_natCast, Nat.reduceAdd, Nat.reduceMul, Int.reduceToNat, Int.reduceAdd, Int.reduceLT, Int.reduceLE, Int.reduceEq, Int.reduceNeg, Int.reduceMul, Int.reduceSub, Nat.reduceSub, reduceIte, ite_true, ite_false, and_true, true_and, and_self]
  rw [if_neg cm]
  by_cases cb : 0 ≤ b ∧ b < H 0 0
  · rw [if_pos cb]
    rw [bI_t cb] at a1
    unfold xadd0
    by_cases cf : P 0 0 < 10
    · rw [if_pos cf]
      have n10 : ¬ (n : Int) = 10 := by omega
      refine ⟨ug (ug G 103 n b) 82 34 ((n : Int) + 1), ?_, mpv_a0 hp' hn, ⟨fun a x y => by rw [ug_ne x, ug_ne (by omega)], fun k x => by rw [ug_k (by omega), ug_ne (by omega)]⟩⟩
      refine e172 (by omega) ?_
      simp (disch := omega) only [s172_0, s172_1, s172_2, s172_2b, s172_5, s172_6, m172_7, s172_10, s172_11, s172_12, s172_13, s172_17, s172_17b, s172_20, s172_21, s172_22, m172_23, s172_26, s172_28, s172_28b, s172_31, s172_33, s172_34, m172_35, s172_38, m172_39, s172_42, m172_43, s172_44, s172_45, m172_46, s172_49, s172_50, m172_51, s172_54, m172_55, s172_58, Int.toNat_natCast, Int.toNat_natCast, Nat.reduceAdd, Nat.reduceMul, Int.reduceToNat, Int.reduceAdd, Int.reduceLT, Int.reduceLE, Int.reduceEq, Int.reduceNeg, Int.reduceMul, Int.reduceSub, Nat.reduceSub, reduceIte, ite_true, ite_false, and_true, true_and, and_self, cm, m172_14 a1, c0, n10, ug_ne, ug_at, hn]
    · rw [if_neg cf]
      have n10 : n = 10 := by omega
      subst n10
      refine ⟨G, ?_, hp', mh_r G⟩
      refine e172 (by omega) ?_
      simp (disch := omega) only [s172_0, s172_1, s172_2, s172_2b, s172_5, s172_6, m172_7, s172_10, s172_11, s172_12, s172_13, s172_17, s172_17b, s172_20, s172_21, s172_22, m172_23, s172_26, s172_28, s172_28b, s172_31, s172_33, s172_34, m172_35, s172_38, m172_39, s172_42, m172_43, s172_44, s172_45, m172_46, s172_49, s172_50, m172_51, s172_54, m172_55, s172_58, Int.toNat_natCast, Int.toNat_natCast, Nat.reduceAdd, Nat.reduceMul, Int.reduceToNat, Int.reduceAdd, Int.reduceLT, Int.reduceLE, Int.reduceEq, Int.reduceNeg, Int.reduceMul, Int.reduceSub, Nat.reduceSub, reduceIte, ite_true, ite_false, and_true, true_and, and_self, cm, m172_14 a1, c0, show ((10 : Nat) : Int) = 10 from rfl]
  · rw [if_neg cb]
    rw [bI_f cb] at a1
    refine ⟨G, ?_, hp', mh_r G⟩
    refine e172 (by omega) ?_
    simp (disch := omega) only [s172_0, s172_1, s172_2, s172_2b, s172_5, s172_6, m172_7, s172_10, s172_11, s172_12, s172_13, s172_17, s172_17b, s172_20, s172_21, s172_22, m172_23, s172_26, s172_28, s172_28b, s172_31, s172_33, s172_34, m172_35, s172_38, m172_39, s172_42, m172_43, s172_44, s172_45, m172_46, s172_49, s172_50, m172_51, s172_54, m172_55, s172_58, Int.toNat_natCast, Int.toNat_natCast, Nat.reduceAdd, Nat.reduceMul, Int.reduceToNat, Int.reduceAdd, Int.reduceLT, Int.reduceLE, Int.reduceEq, Int.reduceNeg, Int.reduceMul, Int.reduceSub, Nat.reduceSub, reduceIte, ite_true, ite_false, and_true, true_and, and_self, cm, m172_14 a1]
theorem sp175 {d N L : Nat} {b f w : Int} {B : q_Bv} {G H P : q_Gi} (hd : 4 ≤ d) (hv : mv G H) (ho : Hok H) (hp' : mpv G P) (hP : Pok P) (hb : -2147483648 ≤ b ∧ b ≤ 2147483647) (hf : -2147483648 ≤ f ∧ f ≤ 2147483647) (hw : -2147483648 ≤ w ∧ w ≤ 2147483647) : ∃ G', Sp d 175 [.ref 82, vI b, vI f, vI w] (hp N L B G) (some (vI (r75 H P b f w).1)) (hp N L B G') ∧ mpv G' (r75 H P b f w).2 ∧ mh G G' := by
  have v0 := hv.1
  have hb6 := ho.1
  have a1 := sp113 (d := d - 1) (z := b) (N := N) (L := L) (B := B) (G := G) (by omega) hb (by rw [v0]; exact ho.1)
  rw [v0] at a1
  have a2 := sp115 (d := d - 1) (z := f) (N := N) (L := L) (B := B) (G := G) (by omega) hf
  have a3 := sp109 (d := d - 1) (z := w) (lo := 0) (hi := 30) (X := hp N L B G) (by omega) hw (by omega) (by omega)
  have hPr := hP.2.1
  obtain ⟨n, hn⟩ : ∃ n : Nat, P 0 1 = (n : Int) := ⟨(P 0 1).toNat, by omega⟩
  have c0 := hp'.2.1.1
  rw [hn] at c0
  unfold r75
  by_cases cm : b = -1
  · subst cm
    rw [if_pos rfl]
    refine ⟨ug G 82 36 0, ?_, mpv_w1 hp', ⟨fun a x _ => ug_ne x, fun k x => ug_k (by omega)⟩⟩
    refine e175 (by omega) ?_
    simp (disch := omega) only [s175_0, s175_1, s175_2, s175_2b, s175_5, s175_6, m175_7, s175_10, s175_11, s175_12, s175_13, s175_17, s175_17b, s175_20, s175_21, s175_22, s175_23, s175_27, s175_27b, s175_30, s175_31, s175_32, s175_33, s175_38, s175_38b, s175_41, s175_43, s175_44, m175_45, s175_48, s175_49, s175_49b, s175_52, s175_54, s175_55, m175_56, s175_59, m175_60, s175_63, m175_64, s175_65, m175_66, s175_69, m175_70, s175_73, m175_74, s175_75, m175_76, s175_79, m175_80, s175_83, m175_84, s175_85, s175_86, m175_87, s175_90, s175_91, m175_92, s175_95, m175_96, s175_99, Int.toNat_natCast, Int.toNat_natCast, Nat.reduceAdd, Nat.reduceMul, Int.reduceToNat, Int.reduceAdd, Int.reduceLT, Int.reduceLE, Int.reduceEq, Int.reduceNeg, Int.reduceMul, Int.reduceSub, Nat.reduceSub, reduceIte, ite_true, ite_false, and_true, true_and, and_self]
  rw [if_neg cm]
  by_cases cb : 0 ≤ b ∧ b < H 0 0
  · rw [if_pos cb]
    rw [bI_t cb] at a1
    by_cases c2 : 0 ≤ f ∧ f ≤ 99
    · rw [bI_t c2] at a2
      by_cases c3 : 0 ≤ w ∧ w ≤ 30
      · rw [bI_t c3] at a3
        rw [if_pos ⟨c2, c3⟩]
        unfold xadd1
        by_cases cf : P 0 1 < 5
        · rw [if_pos cf]
          have n10 : ¬ (n : Int) = 5 := by omega
          refine ⟨ug (ug (ug (ug G 104 n b) 105 n f) 106 n w) 82 36 ((n : Int) + 1), ?_, mpv_a1 hp' hn, ⟨fun a x y => by rw [ug_ne x, ug_ne (by omega), ug_ne (by omega), ug_ne (by omega)], fun k x => by rw [ug_k (by omega), ug_ne (by omega), ug_ne (by omega), ug_ne (by omega)]⟩⟩
          refine e175 (by omega) ?_
          simp (disch := omega) only [s175_0, s175_1, s175_2, s175_2b, s175_5, s175_6, m175_7, s175_10, s175_11, s175_12, s175_13, s175_17, s175_17b, s175_20, s175_21, s175_22, s175_23, s175_27, s175_27b, s175_30, s175_31, s175_32, s175_33, s175_38, s175_38b, s175_41, s175_43, s175_44, m175_45, s175_48, s175_49, s175_49b, s175_52, s175_54, s175_55, m175_56, s175_59, m175_60, s175_63, m175_64, s175_65, m175_66, s175_69, m175_70, s175_73, m175_74, s175_75, m175_76, s175_79, m175_80, s175_83, m175_84, s175_85, s175_86, m175_87, s175_90, s175_91, m175_92, s175_95, m175_96, s175_99, Int.toNat_natCast, Int.toNat_natCast, Nat.reduceAdd, Nat.reduceMul, Int.reduceToNat, Int.reduceAdd, Int.reduceLT, Int.reduceLE, Int.reduceEq, Int.reduceNeg, Int.reduceMul, Int.reduceSub, Nat.reduceSub, reduceIte, ite_true, ite_false, and_true, true_and, and_self, cm, m175_14 a1, m175_24 a2, m175_35 a3, c0, n10, ug_ne, ug_at, hn]
        · rw [if_neg cf]
          have n10 : n = 5 := by omega
          subst n10
          refine ⟨G, ?_, hp', mh_r G⟩
          refine e175 (by omega) ?_
          simp (disch := omega) only [s175_0, s175_1, s175_2, s175_2b, s175_5, s175_6, m175_7, s175_10, s175_11, s175_12, s175_13, s175_17, s175_17b, s175_20, s175_21, s175_22, s175_23, s175_27, s175_27b, s175_30, s175_31, s175_32, s175_33, s175_38, s175_38b, s175_41, s175_43, s175_44, m175_45, s175_48, s175_49, s175_49b, s175_52, s175_54, s175_55, m175_56, s175_59, m175_60, s175_63, m175_64, s175_65, m175_66, s175_69, m175_70, s175_73, m175_74, s175_75, m175_76, s175_79, m175_80, s175_83, m175_84, s175_85, s175_86, m175_87, s175_90, s175_91, m175_92, s175_95, m175_96, s175_99, Int.toNat_natCast, Int.toNat_natCast, Nat.reduceAdd, Nat.reduceMul, Int.reduceToNat, Int.reduceAdd, Int.reduceLT, Int.reduceLE, Int.reduceEq, Int.reduceNeg, Int.reduceMul, Int.reduceSub, Nat.reduceSub, reduceIte, ite_true, ite_false, and_true, true_and, and_self, cm, m175_14 a1, m175_24 a2, m175_35 a3, c0, show ((5 : Nat) : Int) = 5 from rfl]
      · rw [bI_f c3] at a3
        rw [if_neg (fun e => c3 e.2)]
        refine ⟨G, ?_, hp', mh_r G⟩
        refine e175 (by omega) ?_
        simp (disch := omega) only [s175_0, s175_1, s175_2, s175_2b, s175_5, s175_6, m175_7, s175_10, s175_11, s175_12, s175_13, s175_17, s175_17b, s175_20, s175_21, s175_22, s175_23, s175_27, s175_27b, s175_30, s175_31, s175_32, s175_33, s175_38, s175_38b, s175_41, s175_43, s175_44, m175_45, s175_48, s175_49, s175_49b, s175_52, s175_54, s175_55, m175_56, s175_59, m175_60, s175_63, m175_64, s175_65, m175_66, s175_69, m175_70, s175_73, m175_74, s175_75, m175_76, s175_79, m175_80, s175_83, m175_84, s175_85, s175_86, m175_87, s175_90, s175_91, m175_92, s175_95, m175_96, s175_99, Int.toNat_natCast, Int.toNat_natCast, Nat.reduceAdd, Nat.reduceMul, Int.reduceToNat, Int.reduceAdd, Int.reduceLT, Int.reduceLE, Int.reduceEq, Int.reduceNeg, Int.reduceMul, Int.reduceSub, Nat.reduceSub, reduceIte, ite_true, ite_false, and_true, true_and, and_self, cm, m175_14 a1, m175_24 a2, m175_35 a3]
    · rw [bI_f c2] at a2
      rw [if_neg (fun e => c2 e.1)]
      refine ⟨G, ?_, hp', mh_r G⟩
      refine e175 (by omega) ?_
      simp (disch := omega) only [s175_0, s175_1, s175_2, s175_2b, s175_5, s175_6, m175_7, s175_10, s175_11, s175_12, s175_13, s175_17, s175_17b, s175_20, s175_21, s175_22, s175_23, s175_27, s175_27b, s175_30, s175_31, s175_32, s175_33, s175_38, s175_38b, s175_41, s175_43, s175_44, m175_45, s175_48, s175_49, s175_49b, s175_52, s175_54, s175_55, m175_56, s175_59, m175_60, s175_63, m175_64, s175_65, m175_66, s175_69, m175_70, s175_73, m175_74, s175_75, m175_76, s175_79, m175_80, s175_83, m175_84, s175_85, s175_86, m175_87, s175_90, s175_91, m175_92, s175_95, m175_96, s175_99, Int.toNat_natCast, Int.toNat_natCast, Nat.reduceAdd, Nat.reduceMul, Int.reduceToNat, Int.reduceAdd, Int.reduceLT, Int.reduceLE, Int.reduceEq, Int.reduceNeg, Int.reduceMul, Int.reduceSub, Nat.reduceSub, reduceIte, ite_true, ite_false, and_true, true_and, and_self, cm, m175_14 a1, m175_24 a2]
  · rw [if_neg cb]
    rw [bI_f cb] at a1
    refine ⟨G, ?_, hp', mh_r G⟩
    refine e175 (by omega) ?_
    simp (disch := omega) only [s175_0, s175_1, s175_2, s175_2b, s175_5, s175_6, m175_7, s175_10, s175_11, s175_12, s175_13, s175_17, s175_17b, s175_20, s175_21, s175_22, s175_23, s175_27, s175_27b, s175_30, s175_31, s175_32, s175_33, s175_38, s175_38b, s175_41, s175_43, s175_44, m175_45, s175_48, s175_49, s175_49b, s175_52, s175_54, s175_55, m175_56, s175_59, m175_60, s175_63, m175_64, s175_65, m175_66, s175_69, m175_70, s175_73, m175_74, s175_75, m175_76, s175_79, m175_80, s175_83, m175_84, s175_85, s175_86, m175_87, s175_90, s175_91, m175_92, s175_95, m175_96, s175_99, Int.toNat_natCast, Int.toNat_natCast, Nat.reduceAdd, Nat.reduceMul, Int.reduceToNat, Int.reduceAdd, Int.reduceLT, Int.reduceLE, Int.reduceEq, Int.reduceNeg, Int.reduceMul, Int.reduceSub, Nat.reduceSub, reduceIte, ite_true, ite_false, and_true, true_and, and_self, cm, m175_14 a1]
theorem sp184 {d N L : Nat} {b f : Int} {B : q_Bv} {G H P : q_Gi} (hd : 4 ≤ d) (hv : mv G H) (ho : Hok H) (hp' : mpv G P) (hP : Pok P) (hb : -2147483648 ≤ b ∧ b ≤ 2147483647) (hf : -2147483648 ≤ f ∧ f ≤ 2147483647) : ∃ G', Sp d 184 [.ref 82, vI b, vI f] (hp N L B G) (some (vI (r81 H P b f).1)) (hp N L B G') ∧ mpv G' (r81 H P b f).2 ∧ mh G G' := by
  have v0 := hv.1
  have hb6 := ho.1
  have a1 := sp113 (d := d - 1) (z := b) (N := N) (L := L) (B := B) (G := G) (by omega) hb (by rw [v0]; exact ho.1)
  rw [v0] at a1
  have a2 := sp115 (d := d - 1) (z := f) (N := N) (L := L) (B := B) (G := G) (by omega) hf
  have hPr := hP.2.2.2.1
  obtain ⟨n, hn⟩ : ∃ n : Nat, P 0 3 = (n : Int) := ⟨(P 0 3).toNat, by omega⟩
  have c0 := hp'.2.2.2.1
  rw [hn] at c0
  unfold r81
  by_cases cm : b = -1
  · subst cm
    rw [if_pos rfl]
    refine ⟨ug G 82 41 0, ?_, mpv_w3 hp', ⟨fun a x _ => ug_ne x, fun k x => ug_k (by omega)⟩⟩
    refine e184 (by omega) ?_
    simp (disch := omega) only [s184_0, s184_1, s184_2, s184_2b, s184_5, s184_6, m184_7, s184_10, s184_11, s184_12, s184_13, s184_17, s184_17b, s184_20, s184_21, s184_22, s184_23, s184_27, s184_27b, s184_30, s184_32, s184_33, m184_34, s184_37, s184_39, s184_39b, s184_42, s184_44, s184_45, m184_46, s184_49, m184_50, s184_53, m184_54, s184_55, m184_56, s184_59, m184_60, s184_63, m184_64, s184_65, s184_66, m184_67, s184_70, s184_71, m184_72, s184_75, m184_76, s184_79, Int.toNat_natCast, Int.toNat_natCast, Nat.reduceAdd, Nat.reduceMul, Int.reduceToNat, Int.reduceAdd, Int.reduceLT, Int.reduceLE, Int.reduceEq, Int.reduceNeg, Int.reduceMul, Int.reduceSub, Nat.reduceSub, reduceIte, ite_true, ite_false, and_true, true_and, and_self]
  rw [if_neg cm]
  by_cases cb : 0 ≤ b ∧ b < H 0 0
  · rw [if_pos cb]
    rw [bI_t cb] at a1
    by_cases c2 : 0 ≤ f ∧ f ≤ 99
    · rw [bI_t c2] at a2
      rw [if_pos c2]
      unfold xadd3
      by_cases cf : P 0 3 < 8
      · rw [if_pos cf]
        have n10 : ¬ (n : Int) = 8 := by omega
        refine ⟨ug (ug (ug G 109 n b) 110 n f) 82 41 ((n : Int) + 1), ?_, mpv_a3 hp' hn, ⟨fun a x y => by rw [ug_ne x, ug_ne (by omega), ug_ne (by omega)], fun k x => by rw [ug_k (by omega), ug_ne (by omega), ug_ne (by omega)]⟩⟩
        refine e184 (by omega) ?_
        simp (disch := omega) only [s184_0, s184_1, s184_2, s184_2b, s184_5, s184_6, m184_7, s184_10, s184_11, s184_12, s184_13, s184_17, s184_17b, s184_20, s184_21, s184_22, s184_23, s184_27, s184_27b, s184_30, s184_32, s184_33, m184_34, s184_37, s184_39, s184_39b, s184_42, s184_44, s184_45, m184_46, s184_49, m184_50, s184_53, m184_54, s184_55, m184_56, s184_59, m184_60, s184_63, m184_64, s184_65, s184_66, m184_67, s184_70, s184_71, m184_72, s184_75, m184_76, s184_79, Int.toNat_natCast, Int.toNat_natCast, Nat.reduceAdd, Nat.reduceMul, Int.reduceToNat, Int.reduceAdd, Int.reduceLT, Int.reduceLE, Int.reduceEq, Int.reduceNeg, Int.reduceMul, Int.reduceSub, Nat.reduceSub, reduceIte, ite_true, ite_false, and_true, true_and, and_self, cm, m184_14 a1, m184_24 a2, c0, n10, ug_ne, ug_at, hn]
      · rw [if_neg cf]
        have n10 : n = 8 := by omega
        subst n10
        refine ⟨G, ?_, hp', mh_r G⟩
        refine e184 (by omega) ?_
        simp (disch := omega) only [s184_0, s184_1, s184_2, s184_2b, s184_5, s184_6, m184_7, s184_10, s184_11, s184_12, s184_13, s184_17, s184_17b, s184_20, s184_21, s184_22, s184_23, s184_27, s184_27b, s184_30, s184_32, s184_33, m184_34, s184_37, s184_39, s184_39b, s184_42, s184_44, s184_45, m184_46, s184_49, m184_50, s184_53, m184_54, s184_55, m184_56, s184_59, m184_60, s184_63, m184_64, s184_65, s184_66, m184_67, s184_70, s184_71, m184_72, s184_75, m184_76, s184_79, Int.toNat_natCast, Int.toNat_natCast, Nat.reduceAdd, Nat.reduceMul, Int.reduceToNat, Int.reduceAdd, Int.reduceLT, Int.reduceLE, Int.reduceEq, Int.reduceNeg, Int.reduceMul, Int.reduceSub, Nat.reduceSub, reduceIte, ite_true, ite_false, and_true, true_and, and_self, cm, m184_14 a1, m184_24 a2, c0, show ((8 : Nat) : Int) = 8 from rfl]
    · rw [bI_f c2] at a2
      rw [if_neg c2]
      refine ⟨G, ?_, hp', mh_r G⟩
      refine e184 (by omega) ?_
      simp (disch := omega) only [s184_0, s184_1, s184_2, s184_2b, s184_5, s184_6, m184_7, s184_10, s184_11, s184_12, s184_13, s184_17, s184_17b, s184_20, s184_21, s184_22, s184_23, s184_27, s184_27b, s184_30, s184_32, s184_33, m184_34, s184_37, s184_39, s184_39b, s184_42, s184_44, s184_45, m184_46, s184_49, m184_50, s184_53, m184_54, s184_55, m184_56, s184_59, m184_60, s184_63, m184_64, s184_65, s184_66, m184_67, s184_70, s184_71, m184_72, s184_75, m184_76, s184_79, Int.toNat_natCast, Int.toNat_natCast, Nat.reduceAdd, Nat.reduceMul, Int.reduceToNat, Int.reduceAdd, Int.reduceLT, Int.reduceLE, Int.reduceEq, Int.reduceNeg, Int.reduceMul, Int.reduceSub, Nat.reduceSub, reduceIte, ite_true, ite_false, and_true, true_and, and_self, cm, m184_14 a1, m184_24 a2]
  · rw [if_neg cb]
    rw [bI_f cb] at a1
    refine ⟨G, ?_, hp', mh_r G⟩
    refine e184 (by omega) ?_
    simp (disch := omega) only [s184_0, s184_1, s184_2, s184_2b, s184_5, s184_6, m184_7, s184_10, s184_11, s184_12, s184_13, s184_17, s184_17b, s184_20, s184_21, s184_22, s184_23, s184_27, s184_27b, s184_30, s184_32, s184_33, m184_34, s184_37, s184_39, s184_39b, s184_42, s184_44, s184_45, m184_46, s184_49, m184_50, s184_53, m184_54, s184_55, m184_56, s184_59, m184_60, s184_63, m184_64, s184_65, s184_66, m184_67, s184_70, s184_71, m184_72, s184_75, m184_76, s184_79, Int.toNat_natCast, Int.toNat_natCast, Nat.reduceAdd, Nat.reduceMul, Int.reduceToNat, Int.reduceAdd, Int.reduceLT, Int.reduceLE, Int.reduceEq, Int.reduceNeg, Int.reduceMul, Int.reduceSub, Nat.reduceSub, reduceIte, ite_true, ite_false, and_true, true_and, and_self, cm, m184_14 a1]
theorem sp182 {d N L : Nat} {b f : Int} {B : q_Bv} {G H P : q_Gi} (hd : 4 ≤ d) (hv : mv G H) (ho : Hok H) (hp' : mpv G P) (hP : Pok P) (hb : -2147483648 ≤ b ∧ b ≤ 2147483647) (hf : -2147483648 ≤ f ∧ f ≤ 2147483647) : ∃ G', Sp d 182 [.ref 82, vI b, vI f] (hp N L B G) (some (vI (r79 H P b f).1)) (hp N L B G') ∧ mpv G' (r79 H P b f).2 ∧ mh G G' := by
  have v0 := hv.1
  have hb6 := ho.1
  have a1 := sp113 (d := d - 1) (z := b) (N := N) (L := L) (B := B) (G := G) (by omega) hb (by rw [v0]; exact ho.1)
  rw [v0] at a1
  have a2 := sp114 (d := d - 1) (z := f) (N := N) (L := L) (B := B) (G := G) (by omega) hf
  have hPr := hP.2.2.1
  obtain ⟨n, hn⟩ : ∃ n : Nat, P 0 2 = (n : Int) := ⟨(P 0 2).toNat, by omega⟩
  have c0 := hp'.2.2.1.1
  rw [hn] at c0
  unfold r79
  by_cases cm : b = -1
  · subst cm
    rw [if_pos rfl]
    refine ⟨ug G 82 40 0, ?_, mpv_w2 hp', ⟨fun a x _ => ug_ne x, fun k x => ug_k (by omega)⟩⟩
    refine e182 (by omega) ?_
    simp (disch := omega) only [s182_0, s182_1, s182_2, s182_2b, s182_5, s182_6, m182_7, s182_10, s182_11, s182_12, s182_13, s182_15, s182_15b, s182_18, s182_19, s182_23, s182_23b, s182_26, s182_27, s182_31, s182_31b, s182_34, s182_35, s182_36, m182_37, s182_40, s182_42, s182_42b, s182_45, s182_47, s182_48, m182_49, s182_52, m182_53, s182_56, m182_57, s182_58, m182_59, s182_62, m182_63, s182_66, s182_67, s182_69, s182_69b, s182_72, s182_73, s182_76, m182_77, s182_78, s182_79, m182_80, s182_83, s182_84, m182_85, s182_88, m182_89, s182_92, Int.toNat_natCast, Int.toNat_natCast, Nat.reduceAdd, Nat.reduceMul, Int.reduceToNat, Int.reduceAdd, Int.reduceLT, Int.reduceLE, Int.reduceEq, Int.reduceNeg, Int.reduceMul, Int.reduceSub, Nat.reduceSub, reduceIte, ite_true, ite_false, and_true, true_and, and_self]
  rw [if_neg cm]
  by_cases c6 : b = 6
  · subst c6
    rw [if_pos rfl]
    unfold xadd2
    by_cases cf : P 0 2 < 10
    · rw [if_pos cf]
      have n10 : ¬ (n : Int) = 10 := by omega
      refine ⟨ug (ug (ug G 107 n 6) 108 n 0) 82 40 ((n : Int) + 1), ?_, mpv_a2 hp' hn rfl, ⟨fun a x y => by rw [ug_ne x, ug_ne (by omega), ug_ne (by omega)], fun k x => by rw [ug_k (by omega), ug_ne (by omega), ug_ne (by omega)]⟩⟩
      refine e182 (by omega) ?_
      simp (disch := omega) only [s182_0, s182_1, s182_2, s182_2b, s182_5, s182_6, m182_7, s182_10, s182_11, s182_12, s182_13, s182_15, s182_15b, s182_18, s182_19, s182_23, s182_23b, s182_26, s182_27, s182_31, s182_31b, s182_34, s182_35, s182_36, m182_37, s182_40, s182_42, s182_42b, s182_45, s182_47, s182_48, m182_49, s182_52, m182_53, s182_56, m182_57, s182_58, m182_59, s182_62, m182_63, s182_66, s182_67, s182_69, s182_69b, s182_72, s182_73, s182_76, m182_77, s182_78, s182_79, m182_80, s182_83, s182_84, m182_85, s182_88, m182_89, s182_92, Int.toNat_natCast, Int.toNat_natCast, Nat.reduceAdd, Nat.reduceMul, Int.reduceToNat, Int.reduceAdd, Int.reduceLT, Int.reduceLE, Int.reduceEq, Int.reduceNeg, Int.reduceMul, Int.reduceSub, Nat.reduceSub, reduceIte, ite_true, ite_false, and_true, true_and, and_self, c0, n10, ug_ne, ug_at, hn]
    · rw [if_neg cf]
      have n10 : n = 10 := by omega
      subst n10
      refine ⟨G, ?_, hp', mh_r G⟩
      refine e182 (by omega) ?_
      simp (disch := omega) only [s182_0, s182_1, s182_2, s182_2b, s182_5, s182_6, m182_7, s182_10, s182_11, s182_12, s182_13, s182_15, s182_15b, s182_18, s182_19, s182_23, s182_23b, s182_26, s182_27, s182_31, s182_31b, s182_34, s182_35, s182_36, m182_37, s182_40, s182_42, s182_42b, s182_45, s182_47, s182_48, m182_49, s182_52, m182_53, s182_56, m182_57, s182_58, m182_59, s182_62, m182_63, s182_66, s182_67, s182_69, s182_69b, s182_72, s182_73, s182_76, m182_77, s182_78, s182_79, m182_80, s182_83, s182_84, m182_85, s182_88, m182_89, s182_92, Int.toNat_natCast, Int.toNat_natCast, Nat.reduceAdd, Nat.reduceMul, Int.reduceToNat, Int.reduceAdd, Int.reduceLT, Int.reduceLE, Int.reduceEq, Int.reduceNeg, Int.reduceMul, Int.reduceSub, Nat.reduceSub, reduceIte, ite_true, ite_false, and_true, true_and, and_self, c0, show ((10 : Nat) : Int) = 10 from rfl]
  rw [if_neg c6]
  by_cases cb : 0 ≤ b ∧ b < H 0 0
  · rw [bI_t cb] at a1
    by_cases c2 : 0 ≤ f ∧ f < 4
    · rw [bI_t (show 0 ≤ f ∧ f ≤ 3 by omega)] at a2
      rw [if_pos ⟨cb, c2⟩]
      unfold xadd2
      by_cases cf : P 0 2 < 10
      · rw [if_pos cf]
        have n10 : ¬ (n : Int) = 10 := by omega
        refine ⟨ug (ug (ug G 107 n b) 108 n f) 82 40 ((n : Int) + 1), ?_, mpv_a2 hp' hn (by rw [if_neg c6]), ⟨fun a x y => by rw [ug_ne x, ug_ne (by omega), ug_ne (by omega)], fun k x => by rw [ug_k (by omega), ug_ne (by omega), ug_ne (by omega)]⟩⟩
        refine e182 (by omega) ?_
        simp (disch := omega) only [s182_0, s182_1, s182_2, s182_2b, s182_5, s182_6, m182_7, s182_10, s182_11, s182_12, s182_13, s182_15, s182_15b, s182_18, s182_19, s182_23, s182_23b, s182_26, s182_27, s182_31, s182_31b, s182_34, s182_35, s182_36, m182_37, s182_40, s182_42, s182_42b, s182_45, s182_47, s182_48, m182_49, s182_52, m182_53, s182_56, m182_57, s182_58, m182_59, s182_62, m182_63, s182_66, s182_67, s182_69, s182_69b, s182_72, s182_73, s182_76, m182_77, s182_78, s182_79, m182_80, s182_83, s182_84, m182_85, s182_88, m182_89, s182_92, Int.toNat_natCast, Int.toNat_natCast, Nat.reduceAdd, Nat.reduceMul, Int.reduceToNat, Int.reduceAdd, Int.reduceLT, Int.reduceLE, Int.reduceEq, Int.reduceNeg, Int.reduceMul, Int.reduceSub, Nat.reduceSub, reduceIte, ite_true, ite_false, and_true, true_and, and_self, cm, c6, m182_20 a1, m182_28 a2, c0, n10, ug_ne, ug_at, hn]
      · rw [if_neg cf]
        have n10 : n = 10 := by omega
        subst n10
        refine ⟨G, ?_, hp', mh_r G⟩
        refine e182 (by omega) ?_
        simp (disch := omega) only [s182_0, s182_1, s182_2, s182_2b, s182_5, s182_6, m182_7, s182_10, s182_11, s182_12, s182_13, s182_15, s182_15b, s182_18, s182_19, s182_23, s182_23b, s182_26, s182_27, s182_31, s182_31b, s182_34, s182_35, s182_36, m182_37, s182_40, s182_42, s182_42b, s182_45, s182_47, s182_48, m182_49, s182_52, m182_53, s182_56, m182_57, s182_58, m182_59, s182_62, m182_63, s182_66, s182_67, s182_69, s182_69b, s182_72, s182_73, s182_76, m182_77, s182_78, s182_79, m182_80, s182_83, s182_84, m182_85, s182_88, m182_89, s182_92, Int.toNat_natCast, Int.toNat_natCast, Nat.reduceAdd, Nat.reduceMul, Int.reduceToNat, Int.reduceAdd, Int.reduceLT, Int.reduceLE, Int.reduceEq, Int.reduceNeg, Int.reduceMul, Int.reduceSub, Nat.reduceSub, reduceIte, ite_true, ite_false, and_true, true_and, and_self, cm, c6, m182_20 a1, m182_28 a2, c0, show ((10 : Nat) : Int) = 10 from rfl]
    · rw [bI_f (show ¬ (0 ≤ f ∧ f ≤ 3) by omega)] at a2
      rw [if_neg (fun e => c2 e.2)]
      refine ⟨G, ?_, hp', mh_r G⟩
      refine e182 (by omega) ?_
      simp (disch := omega) only [s182_0, s182_1, s182_2, s182_2b, s182_5, s182_6, m182_7, s182_10, s182_11, s182_12, s182_13, s182_15, s182_15b, s182_18, s182_19, s182_23, s182_23b, s182_26, s182_27, s182_31, s182_31b, s182_34, s182_35, s182_36, m182_37, s182_40, s182_42, s182_42b, s182_45, s182_47, s182_48, m182_49, s182_52, m182_53, s182_56, m182_57, s182_58, m182_59, s182_62, m182_63, s182_66, s182_67, s182_69, s182_69b, s182_72, s182_73, s182_76, m182_77, s182_78, s182_79, m182_80, s182_83, s182_84, m182_85, s182_88, m182_89, s182_92, Int.toNat_natCast, Int.toNat_natCast, Nat.reduceAdd, Nat.reduceMul, Int.reduceToNat, Int.reduceAdd, Int.reduceLT, Int.reduceLE, Int.reduceEq, Int.reduceNeg, Int.reduceMul, Int.reduceSub, Nat.reduceSub, reduceIte, ite_true, ite_false, and_true, true_and, and_self, cm, c6, m182_20 a1, m182_28 a2]
  · rw [if_neg (fun e => cb e.1)]
    rw [bI_f cb] at a1
    refine ⟨G, ?_, hp', mh_r G⟩
    refine e182 (by omega) ?_
    simp (disch := omega) only [s182_0, s182_1, s182_2, s182_2b, s182_5, s182_6, m182_7, s182_10, s182_11, s182_12, s182_13, s182_15, s182_15b, s182_18, s182_19, s182_23, s182_23b, s182_26, s182_27, s182_31, s182_31b, s182_34, s182_35, s182_36, m182_37, s182_40, s182_42, s182_42b, s182_45, s182_47, s182_48, m182_49, s182_52, m182_53, s182_56, m182_57, s182_58, m182_59, s182_62, m182_63, s182_66, s182_67, s182_69, s182_69b, s182_72, s182_73, s182_76, m182_77, s182_78, s182_79, m182_80, s182_83, s182_84, m182_85, s182_88, m182_89, s182_92, Int.toNat_natCast, Int.toNat_natCast, Nat.reduceAdd, Nat.reduceMul, Int.reduceToNat, Int.reduceAdd, Int.reduceLT, Int.reduceLE, Int.reduceEq, Int.reduceNeg, Int.reduceMul, Int.reduceSub, Nat.reduceSub, reduceIte, ite_true, ite_false, and_true, true_and, and_self, cm, c6, m182_20 a1]
theorem lp185 {d n N L : Nat} {B : q_Bv} {G H P : q_Gi} (hv : mv G H) (ho : Hok H) (hp' : mpv G P) (hP : Pok P) (hn : P 0 3 = (n : Int)) : ∀ (m k : Nat), k + m = n → WP d 185 2 [.ref 82, vI k] [] (hp N L B G) (fun r1 X1 => r1 = some (vI (lookS H P m k)) ∧ X1 = hp N L B G) := by
  have hn8 : n ≤ 8 := by have := hP.2.2.2.1; omega
  have c0 := hp'.2.2.2.1
  rw [hn] at c0
  intro m
  induction m with
  | zero =>
    intro k hk
    have h1 : ¬ (k : Int) < (n : Int) := by omega
    simp (disch := omega) only [s185_0, s185_1, s185_2, s185_3, m185_4, s185_7, s185_10, m185_11, s185_14, m185_15, s185_18, m185_19, m185_20, s185_21, m185_22, s185_25, m185_26, s185_27, s185_27b, s185_30, s185_31, s185_32, s185_35, s185_38, s185_40, Int.toNat_natCast, Int.toNat_natCast, Nat.reduceAdd, Nat.reduceMul, Int.reduceToNat, Int.reduceAdd, Int.reduceLT, Int.reduceLE, Int.reduceEq, Int.reduceNeg, Int.reduceMul, Int.reduceSub, Nat.reduceSub, reduceIte, ite_true, ite_false, and_true, true_and, and_self, c0, h1, lookS]
  | succ m ih =>
    intro k hk
    have h1 : (k : Int) < (n : Int) := by omega
    have w1 := hp'.2.2.2.2.1 k (by omega)
    have w2 := hp'.2.2.2.2.2 k (by omega)
    have o1 := hP.2.2.2.2.2.2.2.2.2.2.1 k (by omega)
    have o2 := hP.2.2.2.2.2.2.2.2.2.2.2.1 k (by omega)
    have vf := hv.2.2.2.2.2.1 (P 10 k).toNat (by omega)
    have hf := ho.2.2.2.1 (P 10 k).toNat (by omega)
    have := ih (k + 1) (by omega)
    rw [show ((k + 1 : Nat) : Int) = (k : Int) + 1 from rfl] at this
    by_cases c : H 3 (P 10 k).toNat = P 11 k
    · have c' := eq_true c
      rw [s185_2]
      simp (disch := omega) only [s185_3, m185_4, s185_7, s185_10, m185_11, s185_14, m185_15, s185_18, m185_19, m185_20, s185_21, m185_22, s185_25, m185_26, s185_27, s185_27b, s185_30, s185_31, s185_32, s185_35, Int.toNat_natCast, Int.toNat_natCast, Nat.reduceAdd, Nat.reduceMul, Int.reduceToNat, Int.reduceAdd, Int.reduceLT, Int.reduceLE, Int.reduceEq, Int.reduceNeg, Int.reduceMul, Int.reduceSub, Nat.reduceSub, reduceIte, ite_true, ite_false, and_true, true_and, and_self, c0, h1, w1, w2, vf, c', if_true, lookS]
      exact this
    · have c' := eq_false c
      simp (disch := omega) only [s185_0, s185_1, s185_2, s185_3, m185_4, s185_7, s185_10, m185_11, s185_14, m185_15, s185_18, m185_19, m185_20, s185_21, m185_22, s185_25, m185_26, s185_27, s185_27b, s185_30, s185_31, s185_32, s185_35, s185_38, s185_40, Int.toNat_natCast, Int.toNat_natCast, Nat.reduceAdd, Nat.reduceMul, Int.reduceToNat, Int.reduceAdd, Int.reduceLT, Int.reduceLE, Int.reduceEq, Int.reduceNeg, Int.reduceMul, Int.reduceSub, Nat.reduceSub, reduceIte, ite_true, ite_false, and_true, true_and, and_self, c0, h1, w1, w2, vf, c', if_false, lookS]
theorem sp185 {d N L : Nat} {B : q_Bv} {G H P : q_Gi} (hd : 1 ≤ d) (hv : mv G H) (ho : Hok H) (hp' : mpv G P) (hP : Pok P) : Sp d 185 [.ref 82] (hp N L B G) (some (vI (lookS H P (P 0 3).toNat 0))) (hp N L B G) := by
  obtain ⟨n, hn⟩ : ∃ n : Nat, P 0 3 = (n : Int) := ⟨(P 0 3).toNat, by have := hP.2.2.2.1; omega⟩
  rw [hn, Int.toNat_natCast]
  refine e185 (by omega) ?_
  simp (disch := omega) only [s185_0, s185_1, Int.toNat_natCast, Int.toNat_natCast, Nat.reduceAdd, Nat.reduceMul, Int.reduceToNat, Int.reduceAdd, Int.reduceLT, Int.reduceLE, Int.reduceEq, Int.reduceNeg, Int.reduceMul, Int.reduceSub, Nat.reduceSub, reduceIte, ite_true, ite_false, and_true, true_and, and_self]
  exact lp185 (d := d - 1) hv ho hp' hP hn n 0 (by omega)
