/-! the model: odds, mean, towers -/
theorem odM_r {t : Int} {cl : List (Int × List Int)} {H : q_Gi} (ho : Hok H) {b : Nat} : ∀ n : Nat, n ≤ 4 → (0 ≤ (odS t cl H b n).1 ∧ (odS t cl H b n).1 ≤ 99 * (n : Int)) ∧ (0 ≤ (odS t cl H b n).2 ∧ (odS t cl H b n).2 ≤ 99 * (n : Int)) := by
  intro n
  induction n with
  | zero => intro _; exact ⟨⟨Int.le_refl _, show (0 : Int) ≤ 99 * ((0 : Nat) : Int) by omega⟩, ⟨Int.le_refl _, show (0 : Int) ≤ 99 * ((0 : Nat) : Int) by omega⟩⟩
  | succ n ih =>
    intro hn
    have h := ih (by omega)
    have hs := ho.2.2.2.2.2.1 n (by omega)
    have e : odS t cl H b (n + 1) = ((odS t cl H b n).1 + (if oddS t cl H b n = true then H 5 n else 0), (odS t cl H b n).2 + H 5 n) := rfl
    rw [e]
    refine ⟨?_, by simp only []; omega⟩
    simp only []
    split <;> omega
theorem lp180 {d b N L : Nat} {the w : Int} {rc : List (Int × Int × List Int)} {B : q_Bv} {H : q_Gi} (hd : 6 ≤ d) (hb : b < 6) (hea : H 0 2 ≤ 99999) {Q : Option Value → q_H → Prop} : ∀ (m k : Nat) (G : q_Gi), k + m = 4 → ms G H the rc → G 82 26 = 99999 → (∀ G' : q_Gi, mv G' H → G' 82 26 = 99999 → mq G G' → WP d 180 104 [.ref 82, vI b, vI w, vI (odS (lsR 2 rc 9) (clR rc) H b 4).1, vI (odS (lsR 2 rc 9) (clR rc) H b 4).2, vI 4] [] (hp N L B G') Q) → WP d 180 30 [.ref 82, vI b, vI w, vI (odS (lsR 2 rc 9) (clR rc) H b k).1, vI (odS (lsR 2 rc 9) (clR rc) H b k).2, vI k] [] (hp N L B G) Q := by
  intro m
  induction m with
  | zero =>
    intro k G hk h hM hQ
    obtain rfl : k = 4 := by omega
    have := hQ G h.1 hM (mq_r G)
    simp (disch := omega) only [s180_30, s180_32, s180_33, Int.toNat_natCast, Int.toNat_natCast, Nat.reduceAdd, Nat.reduceMul, Int.reduceToNat, Int.reduceAdd, Int.reduceLT, Int.reduceLE, Int.reduceEq, Int.reduceNeg, Int.reduceMul, Int.reduceSub, Nat.reduceSub, reduceIte, ite_true, ite_false, and_true, true_and, and_self, show ((4 : Nat) : Int) = 4 from rfl]
    exact this
  | succ m ih =>
    intro k G hk h hM hQ
    have h1 : (k : Int) < 4 := by omega
    have vs := h.1.2.2.2.2.2.2.2 k (by omega)
    have hs := h.2.1.2.2.2.2.2.1 k (by omega)
    have e0 : odS (lsR 2 rc 9) (clR rc) H b (k + 1) = ((odS (lsR 2 rc 9) (clR rc) H b k).1 + (if oddS (lsR 2 rc 9) (clR rc) H b k = true then H 5 k else 0), (odS (lsR 2 rc 9) (clR rc) H b k).2 + H 5 k) := rfl
    have key : ∀ (G' : q_Gi), ms G' H the rc → G' 82 26 = 99999 → mq G G' → WP d 180 30 [.ref 82, vI b, vI w, vI ((odS (lsR 2 rc 9) (clR rc) H b k).1 + (if oddS (lsR 2 rc 9) (clR rc) H b k = true then H 5 k else 0)), vI ((odS (lsR 2 rc 9) (clR rc) H b k).2 + H 5 k), vI ((k : Int) + 1)] [] (hp N L B G') Q := by
      intro G' q1 q2 q3
      have := ih (k + 1) G' (by omega) q1 q2 (fun G'' r1 r2 r3 => hQ G'' r1 r2 (mq_t q3 r3))
      rw [e0] at this
      exact this
    rw [s180_30]
    by_cases c0 : H 5 k = 0
    · have := key G h hM (mq_r G)
      have ez : (if oddS (lsR 2 rc 9) (clR rc) H b k = true then H 5 k else 0) = 0 := by rw [c0]; split <;> rfl
      rw [ez, c0, Int.add_zero, Int.add_zero] at this
      simp (disch := omega) only [s180_32, s180_33, s180_36, m180_37, s180_40, m180_42, s180_43, s180_43b, s180_46, s180_49, s180_51, m180_52, s180_55, m180_57, s180_58, s180_59, s180_61, s180_65, s180_66, s180_67, s180_72, s180_73, s180_74, s180_78, s180_78b, s180_81, m180_82, s180_85, m180_87, s180_88, s180_91, s180_92, s180_93, s180_94, s180_98, s180_101, Int.toNat_natCast, Int.toNat_natCast, Nat.reduceAdd, Nat.reduceMul, Int.reduceToNat, Int.reduceAdd, Int.reduceLT, Int.reduceLE, Int.reduceEq, Int.reduceNeg, Int.reduceMul, Int.reduceSub, Nat.reduceSub, reduceIte, ite_true, ite_false, and_true, true_and, and_self, h1, vs, c0]
      exact this
    · obtain ⟨G1, h160, w1, k1, m1, f1⟩ := sp160 (d := d) (N := N) (L := L) (B := B) (by omega) h.1
      have ms1 : ms G1 H the rc := ms_mq h (mq_sf f1) w1 h.2.1
      obtain ⟨G2, h153, w2, f2⟩ := sp153 (d := d) (b := b) (e := k) (M := 2000000000) (N := N) (L := L) (B := B) (by omega) ms1.1 ms1.2.1 hb (by omega) ms1.2.2.1 ms1.2.2.2 m1 (by omega) (by omega)
      rw [eatM_s (by omega)] at w2
      have ok2 := eatS_k (clR_k h.2.2.2) h.2.1 hb (show k < 4 by omega) (by omega) (by omega)
      have ms2 := ms_mf ms1 f2 w2 ok2
      have h148 := sp148 (d := d) (b := b) (N := N) (L := L) (B := B) (by omega) ms2.1 ms2.2.1 ms2.2.2.1 ms2.2.2.2 hb
      have et : tunS (lsR 2 rc 9) (eatS (clR rc) b k H) b = oddS (lsR 2 rc 9) (clR rc) H b k := by
        have sk := sameK_eat (clR rc) b k H
        have e3 : eatS (clR rc) b k H 3 b = min 99 (H 3 b + fillS (clR rc) H b k (H 3 b)) := by unfold eatS; simp
        unfold tunS oddS
        rw [sk.2.1, sk.2.2.1, e3]
      rw [et] at h148
      obtain ⟨G3, h161, w3, m3, f3⟩ := sp161 (d := d) (N := N) (L := L) (B := B) (by omega) w2 (sameK_eat _ b k H) (ks_f k1 f2)
      have fq : mq G G3 := mq_t (mq_sf f1) (mq_t (mq_mf f2) (mq_pb f3))
      have := key G3 (ms_mq h fq w3 h.2.1) m3 fq
      have ek := (ks_f k1 f2).2.2.2 k (by omega)
      by_cases c : oddS (lsR 2 rc 9) (clR rc) H b k = true
      · rw [if_pos c] at this
        rw [bI_t c] at h148
        simp (disch := omega) only [s180_32, s180_33, s180_36, m180_37, s180_40, m180_42, s180_43, s180_43b, s180_46, s180_49, s180_51, m180_52, s180_55, m180_57, s180_58, s180_59, s180_61, s180_65, s180_66, s180_67, s180_72, s180_73, s180_74, s180_78, s180_78b, s180_81, m180_82, s180_85, m180_87, s180_88, s180_91, s180_92, s180_93, s180_94, s180_98, s180_101, Int.toNat_natCast, Int.toNat_natCast, Nat.reduceAdd, Nat.reduceMul, Int.reduceToNat, Int.reduceAdd, Int.reduceLT, Int.reduceLE, Int.reduceEq, Int.reduceNeg, Int.reduceMul, Int.reduceSub, Nat.reduceSub, reduceIte, ite_true, ite_false, and_true, true_and, and_self, h1, vs, c0, m180_62 h160, m180_69 h153, m180_75 h148, ek, m180_95 h161]
        exact this
      · rw [if_neg c] at this
        rw [bI_f c] at h148
        simp (disch := omega) only [s180_32, s180_33, s180_36, m180_37, s180_40, m180_42, s180_43, s180_43b, s180_46, s180_49, s180_51, m180_52, s180_55, m180_57, s180_58, s180_59, s180_61, s180_65, s180_66, s180_67, s180_72, s180_73, s180_74, s180_78, s180_78b, s180_81, m180_82, s180_85, m180_87, s180_88, s180_91, s180_92, s180_93, s180_94, s180_98, s180_101, Int.toNat_natCast, Int.toNat_natCast, Nat.reduceAdd, Nat.reduceMul, Int.reduceToNat, Int.reduceAdd, Int.reduceLT, Int.reduceLE, Int.reduceEq, Int.reduceNeg, Int.reduceMul, Int.reduceSub, Nat.reduceSub, reduceIte, ite_true, ite_false, and_true, true_and, and_self, h1, vs, c0, m180_62 h160, m180_69 h153, m180_75 h148, ek, m180_95 h161]
        exact this
theorem sp180 {d N L : Nat} {the b w : Int} {rc : List (Int × Int × List Int)} {B : q_Bv} {G H : q_Gi} (hd : 9 ≤ d) (h : ms G H the rc) (hea : H 0 2 ≤ 99999) (hM : G 82 26 = 99999) (hb : -2147483648 ≤ b ∧ b ≤ 2147483647) (hw : -2147483648 ≤ w ∧ w ≤ 2147483647) : ∃ G', Sp d 180 [.ref 82, vI b, vI w] (hp N L B G) (some (vL (r77 (lsR 2 rc 9) (clR rc) H b w))) (hp N L B G') ∧ mv G' H ∧ G' 82 26 = 99999 ∧ mq G G' := by
  have h0 := h
  obtain ⟨hv, ho, h9, hm⟩ := h
  have v0 := hv.1
  have hb6 := ho.1
  have a1 := sp113 (d := d - 1) (z := b) (N := N) (L := L) (B := B) (G := G) (by omega) hb (by rw [v0]; exact ho.1)
  rw [v0] at a1
  have a2 := sp109 (d := d - 1) (z := w) (lo := 0) (hi := 1) (X := hp N L B G) (by omega) hw (by omega) (by omega)
  unfold r77
  by_cases cb : 0 ≤ b ∧ b < H 0 0
  · rw [if_pos cb]
    rw [bI_t cb] at a1
    obtain ⟨n, rfl⟩ : ∃ n : Nat, b = (n : Int) := ⟨b.toNat, by omega⟩
    rw [Int.toNat_natCast]
    by_cases cw : 0 ≤ w ∧ w ≤ 1
    · rw [bI_t cw] at a2
      have or := odM_r (t := lsR 2 rc 9) (cl := clR rc) ho (b := n) 4 (by decide)
      obtain ⟨r1, X1, hS, G', hr, hX, q⟩ := E180 (d := d) (X := hp N L B G) (z1 := (n : Int)) (z2 := w) (Q := fun r1 X1 => ∃ G', r1 = some (vL (fracS (odS (lsR 2 rc 9) (clR rc) H n 4).1.toNat (odS (lsR 2 rc 9) (clR rc) H n 4).2.toNat w)) ∧ X1 = hp N L B G' ∧ mv G' H ∧ G' 82 26 = 99999 ∧ mq G G') (by omega) (by
        simp (disch := omega) only [s180_0, s180_1, s180_5, s180_5b, s180_8, s180_9, s180_10, s180_11, s180_15, s180_15b, s180_18, s180_21, s180_22, s180_23, s180_24, s180_25, s180_27, s180_28, Int.toNat_natCast, Int.toNat_natCast, Nat.reduceAdd, Nat.reduceMul, Int.reduceToNat, Int.reduceAdd, Int.reduceLT, Int.reduceLE, Int.reduceEq, Int.reduceNeg, Int.reduceMul, Int.reduceSub, Nat.reduceSub, reduceIte, ite_true, ite_false, and_true, true_and, and_self, m180_2 a1, m180_12 a2]
        refine lp180 (d := d - 1) (by omega) (by omega) hea 4 0 G rfl h0 hM (fun G' q1 q2 q3 => ?_)
        generalize odS (lsR 2 rc 9) (clR rc) H n 4 = o at or
        obtain ⟨x, hx⟩ : ∃ x : Nat, o.1 = (x : Int) := ⟨o.1.toNat, by omega⟩
        obtain ⟨y, hy⟩ : ∃ y : Nat, o.2 = (y : Int) := ⟨o.2.toNat, by omega⟩
        rw [hx, hy, Int.toNat_natCast, Int.toNat_natCast]
        by_cases c0 : y = 0
        · subst c0
          have ef : fracS x 0 w = -9223372036854775808 := by unfold fracS; rw [if_pos (Or.inl rfl)]
          rw [ef]
          simp (disch := omega) only [s180_104, s180_106, s180_106b, s180_109, s180_112, s180_115, s180_116, s180_117, s180_119, s180_123, Int.toNat_natCast, Int.toNat_natCast, Nat.reduceAdd, Nat.reduceMul, Int.reduceToNat, Int.reduceAdd, Int.reduceLT, Int.reduceLE, Int.reduceEq, Int.reduceNeg, Int.reduceMul, Int.reduceSub, Nat.reduceSub, reduceIte, ite_true, ite_false, and_true, true_and, and_self, show ((0 : Nat) : Int) = 0 from rfl]
          exact ⟨G', rfl, q1, q2, q3⟩
        · have c0' : ¬ (y : Int) = 0 := by omega
          have h179 := sp179 (d := d - 1) (a := x) (b := y) (p := w) (N := N) (L := L) (B := B) (G := G') (by omega) (by omega) (by omega) (by omega)
          simp (disch := omega) only [s180_104, s180_106, s180_106b, s180_109, s180_112, s180_115, s180_116, s180_117, s180_119, s180_123, Int.toNat_natCast, Int.toNat_natCast, Nat.reduceAdd, Nat.reduceMul, Int.reduceToNat, Int.reduceAdd, Int.reduceLT, Int.reduceLE, Int.reduceEq, Int.reduceNeg, Int.reduceMul, Int.reduceSub, Nat.reduceSub, reduceIte, ite_true, ite_false, and_true, true_and, and_self, c0', m180_120 h179]
          exact ⟨G', rfl, q1, q2, q3⟩)
      exact ⟨G', by rw [hr, hX] at hS; exact hS, q⟩
    · rw [bI_f cw] at a2
      refine ⟨G, ?_, hv, hM, mq_r G⟩
      have ef : ∀ x y, fracS x y w = -9223372036854775808 := by intro x y; unfold fracS; rw [if_pos (by omega)]
      rw [ef]
      refine e180 (by omega) ?_
      simp (disch := omega) only [s180_0, s180_1, s180_5, s180_5b, s180_8, s180_9, s180_10, s180_11, s180_15, s180_15b, s180_18, s180_21, s180_22, s180_23, s180_24, s180_25, s180_27, s180_28, Int.toNat_natCast, Int.toNat_natCast, Nat.reduceAdd, Nat.reduceMul, Int.reduceToNat, Int.reduceAdd, Int.reduceLT, Int.reduceLE, Int.reduceEq, Int.reduceNeg, Int.reduceMul, Int.reduceSub, Nat.reduceSub, reduceIte, ite_true, ite_false, and_true, true_and, and_self, m180_2 a1, m180_12 a2]
  · rw [if_neg cb]
    rw [bI_f cb] at a1
    refine ⟨G, ?_, hv, hM, mq_r G⟩
    refine e180 (by omega) ?_
    simp (disch := omega) only [s180_0, s180_1, s180_5, s180_5b, s180_8, s180_9, s180_10, s180_11, s180_15, s180_15b, s180_18, s180_21, s180_22, s180_23, s180_24, s180_25, s180_27, s180_28, Int.toNat_natCast, Int.toNat_natCast, Nat.reduceAdd, Nat.reduceMul, Int.reduceToNat, Int.reduceAdd, Int.reduceLT, Int.reduceLE, Int.reduceEq, Int.reduceNeg, Int.reduceMul, Int.reduceSub, Nat.reduceSub, reduceIte, ite_true, ite_false, and_true, true_and, and_self, m180_2 a1]
theorem lp181 {d n N L : Nat} {z w : Int} {B : q_Bv} {G H : q_Gi} (hv : mv G H) (ho : Hok H) (hn : H 0 0 = (n : Int)) {Q : Option Value → q_H → Prop} : ∀ (m k : Nat), k + m = n → WP d 181 68 [.ref 82, vI z, vI w, vI (sumfS H n), vI n] [] (hp N L B G) Q → WP d 181 43 [.ref 82, vI z, vI w, vI (sumfS H k), vI k] [] (hp N L B G) Q := by
  have hn6 : n ≤ 6 := by have := ho.1; omega
  have v0 := hv.1
  rw [hn] at v0
  intro m
  induction m with
  | zero =>
    intro k hk hR
    obtain rfl : k = n := by omega
    have h1 : ¬ (k : Int) < (k : Int) := by omega
    simp (disch := omega) only [s181_43, s181_45, m181_46, s181_49, Int.toNat_natCast, Int.toNat_natCast, Nat.reduceAdd, Nat.reduceMul, Int.reduceToNat, Int.reduceAdd, Int.reduceLT, Int.reduceLE, Int.reduceEq, Int.reduceNeg, Int.reduceMul, Int.reduceSub, Nat.reduceSub, reduceIte, ite_true, ite_false, and_true, true_and, and_self, v0, h1]
    exact hR
  | succ m ih =>
    intro k hk hR
    have h1 : (k : Int) < (n : Int) := by omega
    have vf := hv.2.2.2.2.2.1 k (by omega)
    have := ih (k + 1) (by omega) hR
    rw [show ((k + 1 : Nat) : Int) = (k : Int) + 1 from rfl, show sumfS H (k + 1) = sumfS H k + H 3 k from rfl] at this
    rw [s181_43]
    simp (disch := omega) only [s181_45, m181_46, s181_49, s181_52, s181_53, m181_54, s181_57, m181_59, s181_60, s181_61, s181_62, s181_65, Int.toNat_natCast, Int.toNat_natCast, Nat.reduceAdd, Nat.reduceMul, Int.reduceToNat, Int.reduceAdd, Int.reduceLT, Int.reduceLE, Int.reduceEq, Int.reduceNeg, Int.reduceMul, Int.reduceSub, Nat.reduceSub, reduceIte, ite_true, ite_false, and_true, true_and, and_self, v0, h1, vf]
    exact this
theorem sumf_r {H : q_Gi} (ho : Hok H) : ∀ n : Nat, n ≤ 6 → 0 ≤ sumfS H n ∧ sumfS H n ≤ 99 * (n : Int) := by
  intro n
  induction n with
  | zero => intro _; exact ⟨Int.le_refl _, show (0 : Int) ≤ 99 * ((0 : Nat) : Int) by omega⟩
  | succ n ih =>
    intro hn
    have h := ih (by omega)
    have h3 := ho.2.2.2.1 n (by omega)
    show 0 ≤ sumfS H n + H 3 n ∧ sumfS H n + H 3 n ≤ _
    omega
theorem sp181 {d N L : Nat} {the z w : Int} {rc : List (Int × Int × List Int)} {B : q_Bv} {G H : q_Gi} (hd : 9 ≤ d) (h : ms G H the rc) (hday : H 0 1 ≤ 9999) (hM : G 82 26 = 99999) (hz : -2147483648 ≤ z ∧ z ≤ 2147483647) (hw : -2147483648 ≤ w ∧ w ≤ 2147483647) : ∃ G', Sp d 181 [.ref 82, vI z, vI w] (hp N L B G) (some (vL (r78 (lsR 3 rc 0) H z w))) (hp N L B G') ∧ mv G' H ∧ G' 82 26 = 99999 ∧ mq G G' := by
  have h0 := h
  obtain ⟨hv, ho, h9, hm⟩ := h
  have v0 := hv.1
  have hb6 := ho.1
  have h01 := ho.2.2.2.2.2.2.1
  have a1 := sp116 (d := d - 1) (z := z) (N := N) (L := L) (B := B) (G := G) (by omega) hz
  have a2 := sp109 (d := d - 1) (z := w) (lo := 0) (hi := 1) (X := hp N L B G) (by omega) hw (by omega) (by omega)
  have hg := lsR_r (w := 3) rc 0 (rcs_ok hm) (by omega)
  unfold r78
  by_cases cz : 0 ≤ z ∧ z ≤ 60
  · rw [if_pos cz]
    rw [bI_t cz] at a1
    by_cases cw : 0 ≤ w ∧ w ≤ 1
    · rw [bI_t cw] at a2
      obtain ⟨n, hn⟩ : ∃ n : Nat, H 0 0 = (n : Int) := ⟨(H 0 0).toNat, by omega⟩
      obtain ⟨k, rfl⟩ : ∃ k : Nat, z = (k : Int) := ⟨z.toNat, by omega⟩
      rw [hn, Int.toNat_natCast, Int.toNat_natCast]
      rw [hn] at v0
      by_cases c0 : n = 0
      · subst c0
        have ef : ∀ x, fracS x 0 w = -9223372036854775808 := by intro x; unfold fracS; rw [if_pos (Or.inl rfl)]
        rw [ef]
        refine ⟨G, ?_, hv, hM, mq_r G⟩
        refine e181 (by omega) ?_
        simp (disch := omega) only [s181_0, s181_1, s181_5, s181_5b, s181_8, s181_9, s181_10, s181_11, s181_15, s181_15b, s181_18, m181_19, s181_22, s181_22b, s181_25, s181_28, Int.toNat_natCast, Int.toNat_natCast, Nat.reduceAdd, Nat.reduceMul, Int.reduceToNat, Int.reduceAdd, Int.reduceLT, Int.reduceLE, Int.reduceEq, Int.reduceNeg, Int.reduceMul, Int.reduceSub, Nat.reduceSub, reduceIte, ite_true, ite_false, and_true, true_and, and_self, m181_2 a1, m181_12 a2, v0, show ((0 : Nat) : Int) = 0 from rfl]
      · have c0' : ¬ (n : Int) = 0 := by omega
        obtain ⟨G1, h160, w1, k1, m1, f1⟩ := sp160 (d := d - 1) (N := N) (L := L) (B := B) (by omega) hv
        have ms1 : ms G1 H the rc := ms_mq h0 (mq_sf f1) w1 ho
        obtain ⟨G2, h156, w2, f2⟩ := sp156 (d := d - 1) (n := k) (N := N) (L := L) (B := B) (by omega) ms1 (by omega) (by omega)
        have ok2 := daysS_ok hg k H ho (by omega)
        have sk := sameK_days (lsR 3 rc 0) k H
        have hn2 : daysS (lsR 3 rc 0) k H 0 0 = (n : Int) := by rw [sk.1, hn]
        obtain ⟨G3, h161, w3, m3, f3⟩ := sp161 (d := d - 1) (N := N) (L := L) (B := B) (by omega) w2 sk (ks_f k1 f2)
        have v03 := w3.1
        rw [hn] at v03
        have sr := sumf_r ok2 n (by omega)
        obtain ⟨x, hx⟩ : ∃ x : Nat, sumfS (daysS (lsR 3 rc 0) k H) n = (x : Int) := ⟨(sumfS (daysS (lsR 3 rc 0) k H) n).toNat, by omega⟩
        have h179 := sp179 (d := d - 1) (a := x) (b := n) (p := w) (N := N) (L := L) (B := B) (G := G3) (by omega) (by omega) (by omega) (by omega)
        refine ⟨G3, ?_, w3, m3, mq_t (mq_sf f1) (mq_t (mq_mf f2) (mq_pb f3))⟩
        refine e181 (by omega) ?_
        simp (disch := omega) only [s181_0, s181_1, s181_5, s181_5b, s181_8, s181_9, s181_10, s181_11, s181_15, s181_15b, s181_18, m181_19, s181_22, s181_22b, s181_25, s181_28, s181_29, s181_33, s181_34, s181_38, s181_39, s181_40, s181_41, Int.toNat_natCast, Int.toNat_natCast, Nat.reduceAdd, Nat.reduceMul, Int.reduceToNat, Int.reduceAdd, Int.reduceLT, Int.reduceLE, Int.reduceEq, Int.reduceNeg, Int.reduceMul, Int.reduceSub, Nat.reduceSub, reduceIte, ite_true, ite_false, and_true, true_and, and_self, m181_2 a1, m181_12 a2, v0, c0', m181_30 h160, m181_35 h156]
        refine lp181 (d := d - 1) w2 ok2 hn2 n 0 (by omega) ?_
        rw [hx, Int.toNat_natCast]
        simp (disch := omega) only [s181_68, s181_72, s181_73, s181_74, m181_75, s181_78, s181_82, Int.toNat_natCast, Int.toNat_natCast, Nat.reduceAdd, Nat.reduceMul, Int.reduceToNat, Int.reduceAdd, Int.reduceLT, Int.reduceLE, Int.reduceEq, Int.reduceNeg, Int.reduceMul, Int.reduceSub, Nat.reduceSub, reduceIte, ite_true, ite_false, and_true, true_and, and_self, m181_69 h161, v03, m181_79 h179]
    · rw [bI_f cw] at a2
      refine ⟨G, ?_, hv, hM, mq_r G⟩
      have ef : ∀ x y, fracS x y w = -9223372036854775808 := by intro x y; unfold fracS; rw [if_pos (by omega)]
      rw [ef]
      refine e181 (by omega) ?_
      simp (disch := omega) only [s181_0, s181_1, s181_5, s181_5b, s181_8, s181_9, s181_10, s181_11, s181_15, s181_15b, s181_18, m181_19, s181_22, s181_22b, s181_25, s181_28, Int.toNat_natCast, Int.toNat_natCast, Nat.reduceAdd, Nat.reduceMul, Int.reduceToNat, Int.reduceAdd, Int.reduceLT, Int.reduceLE, Int.reduceEq, Int.reduceNeg, Int.reduceMul, Int.reduceSub, Nat.reduceSub, reduceIte, ite_true, ite_false, and_true, true_and, and_self, m181_2 a1, m181_12 a2]
  · rw [if_neg cz]
    rw [bI_f cz] at a1
    refine ⟨G, ?_, hv, hM, mq_r G⟩
    refine e181 (by omega) ?_
    simp (disch := omega) only [s181_0, s181_1, s181_5, s181_5b, s181_8, s181_9, s181_10, s181_11, s181_15, s181_15b, s181_18, m181_19, s181_22, s181_22b, s181_25, s181_28, Int.toNat_natCast, Int.toNat_natCast, Nat.reduceAdd, Nat.reduceMul, Int.reduceToNat, Int.reduceAdd, Int.reduceLT, Int.reduceLE, Int.reduceEq, Int.reduceNeg, Int.reduceMul, Int.reduceSub, Nat.reduceSub, reduceIte, ite_true, ite_false, and_true, true_and, and_self, m181_2 a1]
