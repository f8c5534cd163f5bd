/-! the model: on, tuned, all, told, of -/
/-- the model's state as a whole -/
def ms (G H : q_Gi) (the : Int) (rc : List (Int × Int × List Int)) : Prop := mv G H ∧ Hok H ∧ G 82 9 = the ∧ mu G the rc
theorem ms_mf {G G' H H' : q_Gi} {the : Int} {rc : List (Int × Int × List Int)} (h : ms G H the rc) (f : mf G G') (hv : mv G' H') (ho : Hok H') : ms G' H' the rc := ⟨hv, ho, mf_9 f h.2.2.1, mf_mu f h.2.2.2⟩
theorem ms_mq {G G' H H' : q_Gi} {the : Int} {rc : List (Int × Int × List Int)} (h : ms G H the rc) (f : mq G G') (hv : mv G' H') (ho : Hok H') : ms G' H' the rc := ⟨hv, ho, mq_9 f h.2.2.1, mq_mu f h.2.2.2⟩
theorem sp156 {d n N L : Nat} {the : Int} {rc : List (Int × Int × List Int)} {B : q_Bv} {G H : q_Gi} (hd : 4 ≤ d) (h : ms G H the rc) (hn : n ≤ 60) (hday : H 0 1 + (n : Int) ≤ 20000) : ∃ G', Sp d 156 [.ref 82, vI n] (hp N L B G) none (hp N L B G') ∧ mv G' (daysS (lsR 3 rc 0) n H) ∧ mf G G' := by
  obtain ⟨hv, ho, h9, hm⟩ := h
  obtain ⟨r1, X1, hS, G', hr, hX, q⟩ := E156 (d := d) (X := hp N L B G) (z1 := (n : Int)) (Q := fun r1 X1 => ∃ G', r1 = none ∧ X1 = hp N L B G' ∧ mv G' (daysS (lsR 3 rc 0) n H) ∧ mf G G') (by omega) (by
    simp (disch := omega) only [s156_0, s156_1, Int.toNat_natCast, Int.toNat_natCast, Nat.reduceAdd, Nat.reduceMul, Int.reduceToNat, Int.reduceAdd, Int.reduceLT, Int.reduceLE, Int.reduceEq, Int.reduceNeg, Int.reduceMul, Int.reduceSub, Nat.reduceSub, reduceIte, ite_true, ite_false, and_true, true_and, and_self]
    exact lp156 (d := d - 1) (by omega) hm h9 n 0 G H (by omega) (by omega) hv ho hday (mf_r G) (fun G' h1 h2 => ⟨G', rfl, rfl, h1, h2⟩))
  exact ⟨G', by rw [hr, hX] at hS; exact hS, q⟩
theorem daysS_ok {g : Int} (hg : 0 ≤ g ∧ g ≤ 99) : ∀ (n : Nat) (H : q_Gi), Hok H → H 0 1 + (n : Int) ≤ 20000 → Hok (daysS g n H)
  | 0, H, ho, _ => ho
  | n + 1, H, ho, hd => daysS_ok hg n (dayS g H) (dayS_ok hg ho (by omega)) (by have : dayS g H 0 1 = H 0 1 + 1 := rfl; omega)
theorem sp162 {d N L : Nat} {the n w : Int} {rc : List (Int × Int × List Int)} {B : q_Bv} {G H : q_Gi} (hd : 8 ≤ d) (h : ms G H the rc) (hday : H 0 1 ≤ 9999) (hM : G 82 26 = 99999) (hn : -2147483648 ≤ n ∧ n ≤ 2147483647) (hw : -2147483648 ≤ w ∧ w ≤ 2147483647) : ∃ G', Sp d 162 [.ref 82, vI n, vI w] (hp N L B G) (some (vI (r65 (lsR 2 rc 9) (lsR 3 rc 0) H n w))) (hp N L B G') ∧ mv G' H ∧ G' 82 26 = 99999 ∧ mq G G' := by
  have h0 := h
  obtain ⟨hv, ho, h9, hm⟩ := h
  have v0 := hv.1
  have hb := ho.1
  have a1 := sp109 (d := d - 1) (z := w) (lo := 10) (hi := 9 + H 0 0) (X := hp N L B G) (by omega) hw (by omega) (by omega)
  have a2 := sp109 (d := d - 1) (z := w) (lo := 20) (hi := 23) (X := hp N L B G) (by omega) hw (by omega) (by omega)
  have a3 := sp116 (d := d - 1) (z := n) (N := N) (L := L) (B := B) (G := G) (by omega) hn
  rw [bI_c (show (10 ≤ w ∧ w ≤ 9 + H 0 0) ↔ (10 ≤ w ∧ w < 10 + H 0 0) by omega)] at a1
  rw [bI_c (show (20 ≤ w ∧ w ≤ 23) ↔ (20 ≤ w ∧ w < 24) by omega)] at a2
  have hg := lsR_r (w := 3) rc 0 (rcs_ok hm) (by omega)
  -- the conditions
  have pre : ∀ (R : Option Value → q_H → Prop), (w = 0 ∨ (10 ≤ w ∧ w < 10 + H 0 0) ∨ (20 ≤ w ∧ w < 24)) → WP (d - 1) 162 35 [.ref 82, vI n, vI w, .null] [] (hp N L B G) R → WP (d - 1) 162 0 [.ref 82, vI n, vI w, .null] [] (hp N L B G) R := by
    intro R hc hR
    by_cases c0 : w = 0
    · have c0' := eq_true c0
      simp (disch := omega) only [s162_0, s162_1, s162_1b, s162_4, s162_5, s162_6, s162_8, s162_10, m162_11, s162_14, s162_18, s162_18b, s162_21, s162_22, s162_23, s162_25, s162_30, s162_30b, s162_33, Int.toNat_natCast, Int.toNat_natCast, Nat.reduceAdd, Nat.reduceMul, Int.reduceToNat, Int.reduceAdd, Int.reduceLT, Int.reduceLE, Int.reduceEq, Int.reduceNeg, Int.reduceMul, Int.reduceSub, Nat.reduceSub, reduceIte, ite_true, ite_false, and_true, true_and, and_self, c0', if_true]
      exact hR
    · by_cases c1 : 10 ≤ w ∧ w < 10 + H 0 0
      · rw [bI_t c1] at a1
        have c0' := eq_false c0
        simp (disch := omega) only [s162_0, s162_1, s162_1b, s162_4, s162_5, s162_6, s162_8, s162_10, m162_11, s162_14, s162_18, s162_18b, s162_21, s162_22, s162_23, s162_25, s162_30, s162_30b, s162_33, Int.toNat_natCast, Int.toNat_natCast, Nat.reduceAdd, Nat.reduceMul, Int.reduceToNat, Int.reduceAdd, Int.reduceLT, Int.reduceLE, Int.reduceEq, Int.reduceNeg, Int.reduceMul, Int.reduceSub, Nat.reduceSub, reduceIte, ite_true, ite_false, and_true, true_and, and_self, c0', if_false, v0, m162_15 a1]
        exact hR
      · have c2 : 20 ≤ w ∧ w < 24 := by omega
        rw [bI_f c1] at a1
        rw [bI_t c2] at a2
        have c0' := eq_false c0
        simp (disch := omega) only [s162_0, s162_1, s162_1b, s162_4, s162_5, s162_6, s162_8, s162_10, m162_11, s162_14, s162_18, s162_18b, s162_21, s162_22, s162_23, s162_25, s162_30, s162_30b, s162_33, Int.toNat_natCast, Int.toNat_natCast, Nat.reduceAdd, Nat.reduceMul, Int.reduceToNat, Int.reduceAdd, Int.reduceLT, Int.reduceLE, Int.reduceEq, Int.reduceNeg, Int.reduceMul, Int.reduceSub, Nat.reduceSub, reduceIte, ite_true, ite_false, and_true, true_and, and_self, c0', if_false, v0, m162_15 a1, m162_27 a2]
        exact hR
  unfold r65
  by_cases hc : w = 0 ∨ (10 ≤ w ∧ w < 10 + H 0 0) ∨ (20 ≤ w ∧ w < 24)
  · rw [if_pos hc]
    by_cases hn2 : 0 ≤ n ∧ n ≤ 60
    · rw [if_pos hn2]
      rw [bI_t hn2] at a3
      obtain ⟨k, rfl⟩ : ∃ k : Nat, n = (k : Int) := ⟨n.toNat, by omega⟩
      rw [Int.toNat_natCast]
      obtain ⟨G1, h160, w1, k1, m1, f1⟩ := sp160 (d := d - 1) (N := N) (L := L) (B := B) (by omega) hv
      have ms1 : ms G1 H the rc := ms_mq h0 (mq_sf f1) w1 ho
      obtain ⟨G2, h156, w2, f2⟩ := sp156 (d := d - 1) (n := k) (N := N) (L := L) (B := B) (by omega) ms1 (by omega) (by omega)
      have ok2 := daysS_ok hg k H ho (by omega)
      have ms2 := ms_mf ms1 f2 w2 ok2
      have h150 := sp150 (d := d - 1) (N := N) (L := L) (B := B) (by omega) ms2.1 ms2.2.1 ms2.2.2.1 ms2.2.2.2
      have sk := sameK_days (lsR 3 rc 0) k H
      rw [sk.1] at h150
      obtain ⟨G3, h161, w3, m3, f3⟩ := sp161 (d := d - 1) (N := N) (L := L) (B := B) (by omega) w2 sk (ks_f k1 f2)
      refine ⟨G3, ?_, w3, m3, mq_t (mq_sf f1) (mq_t (mq_mf f2) (mq_pb f3))⟩
      refine e162 (by omega) (pre _ hc ?_)
      obtain ⟨x0, x1, x2, xk, xv, xf, xr, xs⟩ := w2
      by_cases c1 : 10 ≤ w ∧ w < 10 + H 0 0
      · rw [if_pos c1]
        have xw := xf (w - 10).toNat (by omega)
        have n0 : ¬ w = 0 := by omega
        have n1 : w < 20 := by omega
        simp (disch := omega) only [s162_35, s162_36, s162_40, s162_40b, s162_43, s162_45, s162_46, s162_50, s162_51, s162_55, s162_56, s162_56b, s162_59, s162_63, s162_66, s162_67, s162_69, s162_72, m162_73, s162_76, s162_77, s162_79, m162_80, s162_81, s162_84, m162_85, s162_88, s162_89, s162_91, m162_92, s162_93, s162_94, s162_98, s162_99, Int.toNat_natCast, Int.toNat_natCast, Nat.reduceAdd, Nat.reduceMul, Int.reduceToNat, Int.reduceAdd, Int.reduceLT, Int.reduceLE, Int.reduceEq, Int.reduceNeg, Int.reduceMul, Int.reduceSub, Nat.reduceSub, reduceIte, ite_true, ite_false, and_true, true_and, and_self, m162_37 a3, m162_47 h160, m162_52 h156, n0, n1, xw, m162_95 h161]
      rw [if_neg c1]
      by_cases c2 : 20 ≤ w ∧ w < 24
      · rw [if_pos c2]
        have xw := xs (w - 20).toNat (by omega)
        have n0 : ¬ w = 0 := by omega
        have n1 : ¬ w < 20 := by omega
        simp (disch := omega) only [s162_35, s162_36, s162_40, s162_40b, s162_43, s162_45, s162_46, s162_50, s162_51, s162_55, s162_56, s162_56b, s162_59, s162_63, s162_66, s162_67, s162_69, s162_72, m162_73, s162_76, s162_77, s162_79, m162_80, s162_81, s162_84, m162_85, s162_88, s162_89, s162_91, m162_92, s162_93, s162_94, s162_98, s162_99, Int.toNat_natCast, Int.toNat_natCast, Nat.reduceAdd, Nat.reduceMul, Int.reduceToNat, Int.reduceAdd, Int.reduceLT, Int.reduceLE, Int.reduceEq, Int.reduceNeg, Int.reduceMul, Int.reduceSub, Nat.reduceSub, reduceIte, ite_true, ite_false, and_true, true_and, and_self, m162_37 a3, m162_47 h160, m162_52 h156, n0, n1, xw, m162_95 h161]
      · rw [if_neg c2]
        have n0 : w = 0 := by omega
        subst n0
        simp (disch := omega) only [s162_35, s162_36, s162_40, s162_40b, s162_43, s162_45, s162_46, s162_50, s162_51, s162_55, s162_56, s162_56b, s162_59, s162_63, s162_66, s162_67, s162_69, s162_72, m162_73, s162_76, s162_77, s162_79, m162_80, s162_81, s162_84, m162_85, s162_88, s162_89, s162_91, m162_92, s162_93, s162_94, s162_98, s162_99, Int.toNat_natCast, Int.toNat_natCast, Nat.reduceAdd, Nat.reduceMul, Int.reduceToNat, Int.reduceAdd, Int.reduceLT, Int.reduceLE, Int.reduceEq, Int.reduceNeg, Int.reduceMul, Int.reduceSub, Nat.reduceSub, reduceIte, ite_true, ite_false, and_true, true_and, and_self, m162_37 a3, m162_47 h160, m162_52 h156, m162_60 h150, m162_95 h161]
    · rw [if_neg hn2]
      rw [bI_f hn2] at a3
      refine ⟨G, ?_, hv, hM, mq_r G⟩
      refine e162 (by omega) (pre _ hc ?_)
      simp (disch := omega) only [s162_35, s162_36, s162_40, s162_40b, s162_43, s162_45, Int.toNat_natCast, Int.toNat_natCast, Nat.reduceAdd, Nat.reduceMul, Int.reduceToNat, Int.reduceAdd, Int.reduceLT, Int.reduceLE, Int.reduceEq, Int.reduceNeg, Int.reduceMul, Int.reduceSub, Nat.reduceSub, reduceIte, ite_true, ite_false, and_true, true_and, and_self, m162_37 a3]
  · rw [if_neg hc]
    refine ⟨G, ?_, hv, hM, mq_r G⟩
    have n0 : ¬ w = 0 := fun e => hc (Or.inl e)
    rw [bI_f (fun e => hc (Or.inr (Or.inl e)))] at a1
    rw [bI_f (fun e => hc (Or.inr (Or.inr e)))] at a2
    refine e162 (by omega) ?_
    simp (disch := omega) only [s162_0, s162_1, s162_1b, s162_4, s162_5, s162_6, s162_8, s162_10, m162_11, s162_14, s162_18, s162_18b, s162_21, s162_22, s162_23, s162_25, s162_30, s162_30b, s162_33, s162_34, Int.toNat_natCast, Int.toNat_natCast, Nat.reduceAdd, Nat.reduceMul, Int.reduceToNat, Int.reduceAdd, Int.reduceLT, Int.reduceLE, Int.reduceEq, Int.reduceNeg, Int.reduceMul, Int.reduceSub, Nat.reduceSub, reduceIte, ite_true, ite_false, and_true, true_and, and_self, n0, v0, m162_15 a1, m162_27 a2]
/-- the days till it is so: -5 when 61 days go by -/
theorem lp163 {d b N L : Nat} {the w : Int} {rc : List (Int × Int × List Int)} {B : q_Bv} (hd : 4 ≤ d) (hb : b < 6) (hw : w = 0 ∨ w = 1) {G0 : q_Gi} {Q : Option Value → q_H → Prop} : ∀ (m k : Nat) (G H : q_Gi), k + m = 61 → ms G H the rc → H 0 1 + (m : Int) ≤ 20000 → mf G0 G → (∀ (G' H' : q_Gi) (z : Int), mv G' H' → sameK H' H → mf G0 G' → (if z < 61 then z else -5) = seekS (lsR 2 rc 9) (lsR 3 rc 0) (decide (w = 1)) b m k H → 0 ≤ z ∧ z ≤ 61 → WP d 163 59 [.ref 82, vI b, vI w, vI z] [] (hp N L B G') Q) → WP d 163 26 [.ref 82, vI b, vI w, vI k] [] (hp N L B G) Q := by
  intro m
  induction m with
  | zero =>
    intro k G H hk h hday hfr hQ
    have h1 : ¬ (k : Int) < 61 := by omega
    have := hQ G H (k : Int) h.1 (sameK_r H) hfr (by rw [if_neg h1]; rfl) (by omega)
    simp (disch := omega) only [s163_26, s163_27, s163_29, Int.toNat_natCast, Int.toNat_natCast, Nat.reduceAdd, Nat.reduceMul, Int.reduceToNat, Int.reduceAdd, Int.reduceLT, Int.reduceLE, Int.reduceEq, Int.reduceNeg, Int.reduceMul, Int.reduceSub, Nat.reduceSub, reduceIte, ite_true, ite_false, and_true, true_and, and_self, h1]
    exact this
  | succ m ih =>
    intro k G H hk h hday hfr hQ
    have h1 : (k : Int) < 61 := by omega
    have h148 := sp148 (d := d) (N := N) (L := L) (B := B) (by omega) h.1 h.2.1 h.2.2.1 h.2.2.2 hb
    have hg := lsR_r (w := 3) rc 0 (rcs_ok h.2.2.2) (by omega)
    have e0 : seekS (lsR 2 rc 9) (lsR 3 rc 0) (decide (w = 1)) b (m + 1) k H = if tunS (lsR 2 rc 9) H b = decide (w = 1) then (k : Int) else seekS (lsR 2 rc 9) (lsR 3 rc 0) (decide (w = 1)) b m (k + 1) (dayS (lsR 3 rc 0) H) := rfl
    by_cases c : tunS (lsR 2 rc 9) H b = decide (w = 1)
    · rw [e0, if_pos c] at hQ
      have := hQ G H (k : Int) h.1 (sameK_r H) hfr (by rw [if_pos h1]) (by omega)
      rcases hw with rfl | rfl
      · rw [bI_f (by rw [c]; decide)] at h148
        simp (disch := omega) only [s163_26, s163_27, s163_29, s163_32, s163_33, s163_37, s163_38, s163_38b, s163_41, s163_42, s163_45, s163_46, s163_46b, Int.toNat_natCast, Int.toNat_natCast, Nat.reduceAdd, Nat.reduceMul, Int.reduceToNat, Int.reduceAdd, Int.reduceLT, Int.reduceLE, Int.reduceEq, Int.reduceNeg, Int.reduceMul, Int.reduceSub, Nat.reduceSub, reduceIte, ite_true, ite_false, and_true, true_and, and_self, h1, m163_34 h148]
        exact this
      · rw [bI_t (by rw [c]; decide)] at h148
        simp (disch := omega) only [s163_26, s163_27, s163_29, s163_32, s163_33, s163_37, s163_38, s163_38b, s163_41, s163_42, s163_45, s163_46, s163_46b, Int.toNat_natCast, Int.toNat_natCast, Nat.reduceAdd, Nat.reduceMul, Int.reduceToNat, Int.reduceAdd, Int.reduceLT, Int.reduceLE, Int.reduceEq, Int.reduceNeg, Int.reduceMul, Int.reduceSub, Nat.reduceSub, reduceIte, ite_true, ite_false, and_true, true_and, and_self, h1, m163_34 h148]
        exact this
    · rw [e0, if_neg c] at hQ
      obtain ⟨G1, h155, w1, f1⟩ := sp155 (d := d) (N := N) (L := L) (B := B) (by omega) h.1 h.2.1 h.2.2.1 h.2.2.2
      have := ih (k + 1) G1 (dayS (lsR 3 rc 0) H) (by omega) (ms_mf h f1 w1 (dayS_ok hg h.2.1 (by omega))) (by have : dayS (lsR 3 rc 0) H 0 1 = H 0 1 + 1 := rfl; omega) (mf_t hfr f1) (fun G' H' z q1 q2 q3 q4 q5 => hQ G' H' z q1 (sameK_t q2 (sameK_day _ H)) q3 q4 q5)
      rw [s163_26]
      rcases hw with rfl | rfl
      · have ct : tunS (lsR 2 rc 9) H b = true := by
          cases ht : tunS (lsR 2 rc 9) H b
          · exact absurd (by rw [ht]; decide) c
          · rfl
        rw [bI_t ct] at h148
        simp (disch := omega) only [s163_27, s163_29, s163_32, s163_33, s163_37, s163_38, s163_38b, s163_41, s163_42, s163_45, s163_46, s163_46b, s163_49, s163_53, s163_56, Int.toNat_natCast, Int.toNat_natCast, Nat.reduceAdd, Nat.reduceMul, Int.reduceToNat, Int.reduceAdd, Int.reduceLT, Int.reduceLE, Int.reduceEq, Int.reduceNeg, Int.reduceMul, Int.reduceSub, Nat.reduceSub, reduceIte, ite_true, ite_false, and_true, true_and, and_self, h1, m163_34 h148, m163_50 h155]
        exact this
      · have ct : ¬ tunS (lsR 2 rc 9) H b = true := fun ht => c (by rw [ht]; decide)
        rw [bI_f ct] at h148
        simp (disch := omega) only [s163_27, s163_29, s163_32, s163_33, s163_37, s163_38, s163_38b, s163_41, s163_42, s163_45, s163_46, s163_46b, s163_49, s163_53, s163_56, Int.toNat_natCast, Int.toNat_natCast, Nat.reduceAdd, Nat.reduceMul, Int.reduceToNat, Int.reduceAdd, Int.reduceLT, Int.reduceLE, Int.reduceEq, Int.reduceNeg, Int.reduceMul, Int.reduceSub, Nat.reduceSub, reduceIte, ite_true, ite_false, and_true, true_and, and_self, h1, m163_34 h148, m163_50 h155]
        exact this
theorem sp163 {d N L : Nat} {the b w : Int} {rc : List (Int × Int × List Int)} {B : q_Bv} {G H : q_Gi} (hd : 8 ≤ d) (h : ms G H the rc) (hday : H 0 1 ≤ 9999) (hM : G 82 26 = 99999) (hb : -2147483648 ≤ b ∧ b ≤ 2147483647) (hw : -2147483648 ≤ w ∧ w ≤ 2147483647) : ∃ G', Sp d 163 [.ref 82, vI b, vI w] (hp N L B G) (some (vI (r66 (lsR 2 rc 9) (lsR 3 rc 0) H b w))) (hp N L B G') ∧ mv G' H ∧ G' 82 26 = 99999 ∧ mq G G' := by
  have h0 := h
  obtain ⟨hv, ho, h9, hm⟩ := h
  have v0 := hv.1
  have hb6 := ho.1
  have a1 := sp113 (d := d - 1) (z := b) (N := N) (L := L) (B := B) (G := G) (by omega) hb (by rw [v0]; exact hb6)
  rw [v0] at a1
  have a2 := sp109 (d := d - 1) (z := w) (lo := 0) (hi := 1) (X := hp N L B G) (by omega) hw (by omega) (by omega)
  by_cases hB : 0 ≤ b ∧ b < H 0 0
  · rw [bI_t hB] at a1
    by_cases hW : 0 ≤ w ∧ w ≤ 1
    · rw [bI_t hW] at a2
      have hw' : w = 0 ∨ w = 1 := by omega
      obtain ⟨n, rfl⟩ : ∃ n : Nat, b = (n : Int) := ⟨b.toNat, by omega⟩
      obtain ⟨G1, h160, w1, k1, m1, f1⟩ := sp160 (d := d - 1) (N := N) (L := L) (B := B) (by omega) hv
      have ms1 : ms G1 H the rc := ms_mq h0 (mq_sf f1) w1 ho
      have er : r66 (lsR 2 rc 9) (lsR 3 rc 0) H n w = seekS (lsR 2 rc 9) (lsR 3 rc 0) (decide (w = 1)) n 61 0 H := by
        unfold r66
        rw [if_pos ⟨hB, hw'⟩, Int.toNat_natCast]
      rw [er]
      obtain ⟨r1, X1, hS, G', hr, hX, q⟩ := E163 (d := d) (X := hp N L B G) (z1 := (n : Int)) (z2 := w) (Q := fun r1 X1 => ∃ G', r1 = some (vI (seekS (lsR 2 rc 9) (lsR 3 rc 0) (decide (w = 1)) n 61 0 H)) ∧ X1 = hp N L B G' ∧ mv G' H ∧ G' 82 26 = 99999 ∧ mq G G') (by omega) (by
        simp (disch := omega) only [s163_0, s163_1, s163_5, s163_5b, s163_8, s163_9, s163_10, s163_11, s163_15, s163_15b, s163_18, s163_19, s163_20, s163_24, s163_25, Int.toNat_natCast, Int.toNat_natCast, Nat.reduceAdd, Nat.reduceMul, Int.reduceToNat, Int.reduceAdd, Int.reduceLT, Int.reduceLE, Int.reduceEq, Int.reduceNeg, Int.reduceMul, Int.reduceSub, Nat.reduceSub, reduceIte, ite_true, ite_false, and_true, true_and, and_self, m163_2 a1, m163_12 a2, m163_21 h160]
        refine lp163 (d := d - 1) (by omega) (by omega) hw' (G0 := G1) 61 0 G1 H rfl ms1 (by omega) (mf_r G1) (fun G' H' z q1 q2 q3 q4 q5 => ?_)
        obtain ⟨G3, h161, w3, m3, f3⟩ := sp161 (d := d - 1) (N := N) (L := L) (B := B) (by omega) q1 q2 (ks_f k1 q3)
        rw [← q4]
        by_cases c : z < 61
        · rw [if_pos c]
          simp (disch := omega) only [s163_59, s163_63, s163_64, s163_66, s163_69, s163_70, s163_73, s163_75, Int.toNat_natCast, Int.toNat_natCast, Nat.reduceAdd, Nat.reduceMul, Int.reduceToNat, Int.reduceAdd, Int.reduceLT, Int.reduceLE, Int.reduceEq, Int.reduceNeg, Int.reduceMul, Int.reduceSub, Nat.reduceSub, reduceIte, ite_true, ite_false, and_true, true_and, and_self, m163_60 h161, c]
          exact ⟨G3, rfl, w3, m3, mq_t (mq_sf f1) (mq_t (mq_mf q3) (mq_pb f3))⟩
        · rw [if_neg c]
          simp (disch := omega) only [s163_59, s163_63, s163_64, s163_66, s163_69, s163_70, s163_73, s163_75, Int.toNat_natCast, Int.toNat_natCast, Nat.reduceAdd, Nat.reduceMul, Int.reduceToNat, Int.reduceAdd, Int.reduceLT, Int.reduceLE, Int.reduceEq, Int.reduceNeg, Int.reduceMul, Int.reduceSub, Nat.reduceSub, reduceIte, ite_true, ite_false, and_true, true_and, and_self, m163_60 h161, c]
          exact ⟨G3, rfl, w3, m3, mq_t (mq_sf f1) (mq_t (mq_mf q3) (mq_pb f3))⟩)
      exact ⟨G', by rw [hr, hX] at hS; exact hS, q⟩
    · rw [bI_f hW] at a2
      refine ⟨G, ?_, hv, hM, mq_r G⟩
      have er : r66 (lsR 2 rc 9) (lsR 3 rc 0) H b w = -1 := by unfold r66; rw [if_neg (fun e => hW (by omega))]
      rw [er]
      refine e163 (by omega) ?_
      simp (disch := omega) only [s163_0, s163_1, s163_5, s163_5b, s163_8, s163_9, s163_10, s163_11, s163_15, s163_15b, s163_18, s163_19, Int.toNat_natCast, Int.toNat_natCast, Nat.reduceAdd, Nat.reduceMul, Int.reduceToNat, Int.reduceAdd, Int.reduceLT, Int.reduceLE, Int.reduceEq, Int.reduceNeg, Int.reduceMul, Int.reduceSub, Nat.reduceSub, reduceIte, ite_true, ite_false, and_true, true_and, and_self, m163_2 a1, m163_12 a2]
  · rw [bI_f hB] at a1
    refine ⟨G, ?_, hv, hM, mq_r G⟩
    have er : r66 (lsR 2 rc 9) (lsR 3 rc 0) H b w = -1 := by unfold r66; rw [if_neg (fun e => hB e.1)]
    rw [er]
    refine e163 (by omega) ?_
    simp (disch := omega) only [s163_0, s163_1, s163_5, s163_5b, s163_8, s163_9, s163_10, s163_11, s163_15, s163_15b, s163_18, s163_19, Int.toNat_natCast, Int.toNat_natCast, Nat.reduceAdd, Nat.reduceMul, Int.reduceToNat, Int.reduceAdd, Int.reduceLT, Int.reduceLE, Int.reduceEq, Int.reduceNeg, Int.reduceMul, Int.reduceSub, Nat.reduceSub, reduceIte, ite_true, ite_false, and_true, true_and, and_self, m163_2 a1]
/-! all -/
theorem lp164 {d N L : Nat} {the : Int} {rc : List (Int × Int × List Int)} {B : q_Bv} (hd : 5 ≤ d) {G0 : q_Gi} {Q : Option Value → q_H → Prop} : ∀ (m k : Nat) (fo most : Int) (G H : q_Gi) (x : Value), k + m = 61 → ms G H the rc → H 0 1 + (m : Int) ≤ 20000 → mf G0 G → 0 ≤ most ∧ most ≤ 6 → nL x = true → (∀ (G' H' : q_Gi) (y z : Int) (x : Value), mv G' H' → sameK H' H → mf G0 G' → nL x = true → WP d 164 57 [.ref 82, vI (allS (lsR 2 rc 9) (lsR 3 rc 0) m k fo most (dayS (lsR 3 rc 0) H)), vI y, vI z, x] [] (hp N L B G') Q) → WP d 164 17 [.ref 82, vI fo, vI most, vI k, x] [] (hp N L B G) Q := by
  intro m
  induction m with
  | zero =>
    intro k fo most G H x hk h hday hfr hm hx hQ
    have h1 : ¬ (k : Int) < 61 := by omega
    have := hQ G H most k x h.1 (sameK_r H) hfr hx
    simp (disch := first | omega | assumption) only [s164_17, s164_18, s164_20, Int.toNat_natCast, Int.toNat_natCast, Nat.reduceAdd, Nat.reduceMul, Int.reduceToNat, Int.reduceAdd, Int.reduceLT, Int.reduceLE, Int.reduceEq, Int.reduceNeg, Int.reduceMul, Int.reduceSub, Nat.reduceSub, reduceIte, ite_true, ite_false, and_true, true_and, and_self, h1]
    exact this
  | succ m ih =>
    intro k fo most G H x hk h hday hfr hm hx hQ
    have h1 : (k : Int) < 61 := by omega
    have hg := lsR_r (w := 3) rc 0 (rcs_ok h.2.2.2) (by omega)
    obtain ⟨G1, h155, w1, f1⟩ := sp155 (d := d) (N := N) (L := L) (B := B) (by omega) h.1 h.2.1 h.2.2.1 h.2.2.2
    have hok := dayS_ok hg h.2.1 (by omega)
    have ms1 := ms_mf h f1 w1 hok
    have h150 := sp150 (d := d) (N := N) (L := L) (B := B) (by omega) ms1.1 ms1.2.1 ms1.2.2.1 ms1.2.2.2
    have h151 := sp151t (d := d) (t := lsR 2 rc 9) (H := dayS (lsR 3 rc 0) H) (X := hp N L B G1) (by omega) hok
    have hc := cntS_r (t := lsR 2 rc 9) hok
    have e0 : allS (lsR 2 rc 9) (lsR 3 rc 0) (m + 1) k fo most (dayS (lsR 3 rc 0) H) = if most < cntS (lsR 2 rc 9) (dayS (lsR 3 rc 0) H) then allS (lsR 2 rc 9) (lsR 3 rc 0) m (k + 1) k (cntS (lsR 2 rc 9) (dayS (lsR 3 rc 0) H)) (dayS (lsR 3 rc 0) (dayS (lsR 3 rc 0) H)) else allS (lsR 2 rc 9) (lsR 3 rc 0) m (k + 1) fo most (dayS (lsR 3 rc 0) (dayS (lsR 3 rc 0) H)) := rfl
    rw [e0] at hQ
    generalize cntS (lsR 2 rc 9) (dayS (lsR 3 rc 0) H) = cn at hQ h151 hc
    rw [s164_17]
    by_cases c : most < cn
    · rw [if_pos c] at hQ
      have := ih (k + 1) k cn G1 (dayS (lsR 3 rc 0) H) (vI cn) (by omega) ms1 (by have : dayS (lsR 3 rc 0) H 0 1 = H 0 1 + 1 := rfl; omega) (mf_t hfr f1) hc rfl (fun G' H' y z x q1 q2 q3 q4 => hQ G' H' y z x q1 (sameK_t q2 (sameK_day _ H)) q3 q4)
      simp (disch := first | omega | assumption) only [s164_18, s164_20, s164_23, s164_27, s164_28, s164_35, s164_37, s164_39, s164_40, s164_43, s164_46, s164_47, s164_48, s164_50, s164_51, s164_54, Int.toNat_natCast, Int.toNat_natCast, Nat.reduceAdd, Nat.reduceMul, Int.reduceToNat, Int.reduceAdd, Int.reduceLT, Int.reduceLE, Int.reduceEq, Int.reduceNeg, Int.reduceMul, Int.reduceSub, Nat.reduceSub, reduceIte, ite_true, ite_false, and_true, true_and, and_self, h1, m164_24 h155, m164_29 h150, m164_32 h151, c]
      exact this
    · rw [if_neg c] at hQ
      have := ih (k + 1) fo most G1 (dayS (lsR 3 rc 0) H) (vI cn) (by omega) ms1 (by have : dayS (lsR 3 rc 0) H 0 1 = H 0 1 + 1 := rfl; omega) (mf_t hfr f1) hm rfl (fun G' H' y z x q1 q2 q3 q4 => hQ G' H' y z x q1 (sameK_t q2 (sameK_day _ H)) q3 q4)
      simp (disch := first | omega | assumption) only [s164_18, s164_20, s164_23, s164_27, s164_28, s164_35, s164_37, s164_39, s164_40, s164_43, s164_46, s164_47, s164_48, s164_50, s164_51, s164_54, Int.toNat_natCast, Int.toNat_natCast, Nat.reduceAdd, Nat.reduceMul, Int.reduceToNat, Int.reduceAdd, Int.reduceLT, Int.reduceLE, Int.reduceEq, Int.reduceNeg, Int.reduceMul, Int.reduceSub, Nat.reduceSub, reduceIte, ite_true, ite_false, and_true, true_and, and_self, h1, m164_24 h155, m164_29 h150, m164_32 h151, c]
      exact this
theorem all_0 {t g : Int} {H : q_Gi} (ho : Hok H) : allS t g 61 0 0 0 H = allS t g 60 1 0 (cntS t H) (dayS g H) := by
  have hc := cntS_r (t := t) ho
  have e : allS t g 61 0 0 0 H = if 0 < cntS t H then allS t g 60 1 ((0 : Nat) : Int) (cntS t H) (dayS g H) else allS t g 60 1 0 0 (dayS g H) := rfl
  rw [e]
  by_cases c : 0 < cntS t H
  · rw [if_pos c]; rfl
  · rw [if_neg c, show cntS t H = 0 by omega]
theorem sp164 {d N L : Nat} {the : Int} {rc : List (Int × Int × List Int)} {B : q_Bv} {G H : q_Gi} (hd : 8 ≤ d) (h : ms G H the rc) (hday : H 0 1 ≤ 9999) : ∃ G', Sp d 164 [.ref 82] (hp N L B G) (some (vI (allS (lsR 2 rc 9) (lsR 3 rc 0) 61 0 0 0 H))) (hp N L B G') ∧ mv G' H ∧ G' 82 26 = 99999 ∧ mq G G' := by
  have h0 := h
  obtain ⟨hv, ho, h9, hm⟩ := h
  rw [all_0 ho]
  obtain ⟨G1, h160, w1, k1, m1, f1⟩ := sp160 (d := d - 1) (N := N) (L := L) (B := B) (by omega) hv
  have ms1 : ms G1 H the rc := ms_mq h0 (mq_sf f1) w1 ho
  have h150 := sp150 (d := d - 1) (N := N) (L := L) (B := B) (by omega) ms1.1 ms1.2.1 ms1.2.2.1 ms1.2.2.2
  have h151 := sp151t (d := d - 1) (t := lsR 2 rc 9) (H := H) (X := hp N L B G1) (by omega) ho
  have hc := cntS_r (t := lsR 2 rc 9) ho
  obtain ⟨r1, X1, hS, G', hr, hX, q⟩ := E164 (d := d) (X := hp N L B G) (Q := fun r1 X1 => ∃ G', r1 = some (vI (allS (lsR 2 rc 9) (lsR 3 rc 0) 60 1 0 (cntS (lsR 2 rc 9) H) (dayS (lsR 3 rc 0) H))) ∧ X1 = hp N L B G' ∧ mv G' H ∧ G' 82 26 = 99999 ∧ mq G G') (by omega) (by
    simp (disch := omega) only [s164_0, s164_4, s164_5, s164_6, s164_7, s164_14, s164_15, s164_16, Int.toNat_natCast, Int.toNat_natCast, Nat.reduceAdd, Nat.reduceMul, Int.reduceToNat, Int.reduceAdd, Int.reduceLT, Int.reduceLE, Int.reduceEq, Int.reduceNeg, Int.reduceMul, Int.reduceSub, Nat.reduceSub, reduceIte, ite_true, ite_false, and_true, true_and, and_self, m164_1 h160, m164_8 h150, m164_11 h151]
    refine lp164 (d := d - 1) (by omega) (G0 := G1) 60 1 0 (cntS (lsR 2 rc 9) H) G1 H .null rfl ms1 (by omega) (mf_r G1) hc rfl (fun G' H' y z x q1 q2 q3 q4 => ?_)
    obtain ⟨G3, h161, w3, m3, f3⟩ := sp161 (d := d - 1) (N := N) (L := L) (B := B) (by omega) q1 q2 (ks_f k1 q3)
    simp (disch := first | omega | assumption) only [s164_57, s164_61, s164_62, Int.toNat_natCast, Int.toNat_natCast, Nat.reduceAdd, Nat.reduceMul, Int.reduceToNat, Int.reduceAdd, Int.reduceLT, Int.reduceLE, Int.reduceEq, Int.reduceNeg, Int.reduceMul, Int.reduceSub, Nat.reduceSub, reduceIte, ite_true, ite_false, and_true, true_and, and_self, m164_58 h161]
    exact ⟨G3, rfl, w3, m3, mq_t (mq_sf f1) (mq_t (mq_mf q3) (mq_pb f3))⟩)
  exact ⟨G', by rw [hr, hX] at hS; exact hS, q⟩
theorem sp152 {d N L : Nat} {the w : Int} {rc : List (Int × Int × List Int)} {B : q_Bv} {G H : q_Gi} (hd : 5 ≤ d) (h : ms G H the rc) (hw : -2147483648 ≤ w ∧ w ≤ 2147483647) : Sp d 152 [.ref 82, vI w] (hp N L B G) (some (vI (r61 (lsR 2 rc 9) (lsR 3 rc 0) H w))) (hp N L B G) := by
  obtain ⟨hv, ho, h9, hm⟩ := h
  have a1 := sp109 (d := d - 1) (z := w) (lo := 10) (hi := 13) (X := hp N L B G) (by omega) hw (by omega) (by omega)
  have h150 := sp150 (d := d - 1) (N := N) (L := L) (B := B) (by omega) hv ho h9 hm
  have ht := sp140 (d := d - 1) (N := N) (L := L) (B := B) (w := 2) (n := 9) (by omega) h9 hm (by omega)
  have hg := sp140 (d := d - 1) (N := N) (L := L) (B := B) (w := 3) (n := 0) (by omega) h9 hm (by omega)
  obtain ⟨v0, v1, v2, vk, vv, vf, vr, vs⟩ := hv
  refine e152 (by omega) ?_
  by_cases c : 10 ≤ w ∧ w ≤ 13
  · rw [bI_t c] at a1
    have e : r61 (lsR 2 rc 9) (lsR 3 rc 0) H w = H 5 (w - 10).toNat := by unfold r61; rw [if_neg (by omega), if_neg (by omega), if_neg (by omega), if_neg (by omega), if_neg (by omega), if_pos (by omega)]
    rw [e]
    have vw := vs (w - 10).toNat (by omega)
    simp (disch := omega) only [s152_0, s152_1, s152_2, s152_4, s152_9, s152_9b, s152_12, m152_13, s152_16, s152_17, s152_19, m152_20, s152_21, s152_22, s152_23, s152_56, m152_57, s152_60, s152_61, m152_62, s152_65, s152_66, s152_67, s152_68, s152_73, s152_74, s152_75, s152_76, s152_80, s152_81, s152_85, s152_86, s152_87, Int.toNat_natCast, Int.toNat_natCast, Nat.reduceAdd, Nat.reduceMul, Int.reduceToNat, Int.reduceAdd, Int.reduceLT, Int.reduceLE, Int.reduceEq, Int.reduceNeg, Int.reduceMul, Int.reduceSub, Nat.reduceSub, reduceIte, ite_true, ite_false, and_true, true_and, and_self, m152_6 a1, vw]
  · rw [bI_f c] at a1
    have hw' : w = 0 ∨ w = 1 ∨ w = 2 ∨ w = 3 ∨ w = 4 ∨ (¬ w = 0 ∧ ¬ w = 1 ∧ ¬ w = 2 ∧ ¬ w = 3 ∧ ¬ w = 4) := by omega
    rcases hw' with rfl | rfl | rfl | rfl | rfl | ⟨n0, n1, n2, n3, n4⟩
    · simp (disch := omega) only [s152_0, s152_1, s152_2, s152_4, s152_9, s152_9b, s152_12, m152_13, s152_16, s152_17, s152_19, m152_20, s152_21, s152_22, s152_23, s152_56, m152_57, s152_60, s152_61, m152_62, s152_65, s152_66, s152_67, s152_68, s152_73, s152_74, s152_75, s152_76, s152_80, s152_81, s152_85, s152_86, s152_87, Int.toNat_natCast, Int.toNat_natCast, Nat.reduceAdd, Nat.reduceMul, Int.reduceToNat, Int.reduceAdd, Int.reduceLT, Int.reduceLE, Int.reduceEq, Int.reduceNeg, Int.reduceMul, Int.reduceSub, Nat.reduceSub, reduceIte, ite_true, ite_false, and_true, true_and, and_self, m152_6 a1, v1]; rfl
    · simp (disch := omega) only [s152_0, s152_1, s152_2, s152_4, s152_9, s152_9b, s152_12, m152_13, s152_16, s152_17, s152_19, m152_20, s152_21, s152_22, s152_23, s152_56, m152_57, s152_60, s152_61, m152_62, s152_65, s152_66, s152_67, s152_68, s152_73, s152_74, s152_75, s152_76, s152_80, s152_81, s152_85, s152_86, s152_87, Int.toNat_natCast, Int.toNat_natCast, Nat.reduceAdd, Nat.reduceMul, Int.reduceToNat, Int.reduceAdd, Int.reduceLT, Int.reduceLE, Int.reduceEq, Int.reduceNeg, Int.reduceMul, Int.reduceSub, Nat.reduceSub, reduceIte, ite_true, ite_false, and_true, true_and, and_self, m152_6 a1, v2]; rfl
    · simp (disch := omega) only [s152_0, s152_1, s152_2, s152_4, s152_9, s152_9b, s152_12, m152_13, s152_16, s152_17, s152_19, m152_20, s152_21, s152_22, s152_23, s152_56, m152_57, s152_60, s152_61, m152_62, s152_65, s152_66, s152_67, s152_68, s152_73, s152_74, s152_75, s152_76, s152_80, s152_81, s152_85, s152_86, s152_87, Int.toNat_natCast, Int.toNat_natCast, Nat.reduceAdd, Nat.reduceMul, Int.reduceToNat, Int.reduceAdd, Int.reduceLT, Int.reduceLE, Int.reduceEq, Int.reduceNeg, Int.reduceMul, Int.reduceSub, Nat.reduceSub, reduceIte, ite_true, ite_false, and_true, true_and, and_self, m152_6 a1, m152_70 ht]; rfl
    · simp (disch := omega) only [s152_0, s152_1, s152_2, s152_4, s152_9, s152_9b, s152_12, m152_13, s152_16, s152_17, s152_19, m152_20, s152_21, s152_22, s152_23, s152_56, m152_57, s152_60, s152_61, m152_62, s152_65, s152_66, s152_67, s152_68, s152_73, s152_74, s152_75, s152_76, s152_80, s152_81, s152_85, s152_86, s152_87, Int.toNat_natCast, Int.toNat_natCast, Nat.reduceAdd, Nat.reduceMul, Int.reduceToNat, Int.reduceAdd, Int.reduceLT, Int.reduceLE, Int.reduceEq, Int.reduceNeg, Int.reduceMul, Int.reduceSub, Nat.reduceSub, reduceIte, ite_true, ite_false, and_true, true_and, and_self, m152_6 a1, m152_77 hg]; rfl
    · simp (disch := omega) only [s152_0, s152_1, s152_2, s152_4, s152_9, s152_9b, s152_12, m152_13, s152_16, s152_17, s152_19, m152_20, s152_21, s152_22, s152_23, s152_56, m152_57, s152_60, s152_61, m152_62, s152_65, s152_66, s152_67, s152_68, s152_73, s152_74, s152_75, s152_76, s152_80, s152_81, s152_85, s152_86, s152_87, Int.toNat_natCast, Int.toNat_natCast, Nat.reduceAdd, Nat.reduceMul, Int.reduceToNat, Int.reduceAdd, Int.reduceLT, Int.reduceLE, Int.reduceEq, Int.reduceNeg, Int.reduceMul, Int.reduceSub, Nat.reduceSub, reduceIte, ite_true, ite_false, and_true, true_and, and_self, m152_6 a1, m152_82 h150]; rfl
    · have e : r61 (lsR 2 rc 9) (lsR 3 rc 0) H w = -1 := by unfold r61; rw [if_neg n0, if_neg n1, if_neg n2, if_neg n3, if_neg n4, if_neg (by omega)]
      rw [e]
      have hlo : w < 0 ∨ 4 < w := by omega
      simp (disch := omega) only [s152_0, s152_1, s152_2, s152_4, s152_9, s152_9b, s152_12, m152_13, s152_16, s152_17, s152_19, m152_20, s152_21, s152_22, s152_23, s152_56, m152_57, s152_60, s152_61, m152_62, s152_65, s152_66, s152_67, s152_68, s152_73, s152_74, s152_75, s152_76, s152_80, s152_81, s152_85, s152_86, s152_87, Int.toNat_natCast, Int.toNat_natCast, Nat.reduceAdd, Nat.reduceMul, Int.reduceToNat, Int.reduceAdd, Int.reduceLT, Int.reduceLE, Int.reduceEq, Int.reduceNeg, Int.reduceMul, Int.reduceSub, Nat.reduceSub, reduceIte, ite_true, ite_false, and_true, true_and, and_self, m152_6 a1, n0, n1, n2, n3, n4]
theorem sp149 {d N L : Nat} {the b w : Int} {rc : List (Int × Int × List Int)} {B : q_Bv} {G H : q_Gi} (hd : 6 ≤ d) (h : ms G H the rc) (hb : -2147483648 ≤ b ∧ b ≤ 2147483647) (hw : -2147483648 ≤ w ∧ w ≤ 2147483647) : ∃ G', Sp d 149 [.ref 82, vI b, vI w] (hp N L B G) (some (vI (r55 (lsR 2 rc 9) (clR rc) H b w))) (hp N L B G') ∧ mv G' H ∧ mq G G' := by
  obtain ⟨hv, ho, h9, hm⟩ := h
  have v0 := hv.1
  have hb6 := ho.1
  have a1 := sp113 (d := d - 1) (z := b) (N := N) (L := L) (B := B) (G := G) (by omega) hb (by rw [v0]; exact hb6)
  rw [v0] at a1
  have a2 := sp109 (d := d - 1) (z := w) (lo := 10) (hi := 13) (X := hp N L B G) (by omega) hw (by omega) (by omega)
  by_cases hB : 0 ≤ b ∧ b < H 0 0
  · rw [bI_t hB] at a1
    obtain ⟨n, rfl⟩ : ∃ n : Nat, b = (n : Int) := ⟨b.toNat, by omega⟩
    have hn6 : n < 6 := by omega
    by_cases c : 10 ≤ w ∧ w ≤ 13
    · rw [bI_t c] at a2
      obtain ⟨e, rfl⟩ : ∃ e : Nat, w = (e : Int) + 10 := ⟨(w - 10).toNat, by omega⟩
      obtain ⟨G1, h144, f1⟩ := sp144 (d := d - 1) (f := e) (N := N) (L := L) (B := B) (by omega) hv ho hn6 (by omega) h9 hm
      have er : r55 (lsR 2 rc 9) (clR rc) H n ((e : Int) + 10) = fillS (clR rc) H n e (H 3 n) := by
        unfold r55
        rw [if_pos hB, if_neg (by omega), if_neg (by omega), if_neg (by omega), if_neg (by omega), if_neg (by omega), if_neg (by omega), if_neg (by omega), if_pos (by omega), Int.toNat_natCast, show ((e : Int) + 10 - 10).toNat = e by omega]
      rw [er]
      have e10 : (e : Int) + 10 - 10 = (e : Int) := by omega
      refine ⟨G1, ?_, mv_f hv (fun a _ _ => f1 a (by omega)), mq_97 f1⟩
      refine e149 (by omega) ?_
      simp (disch := omega) only [s149_0, s149_1, s149_5, s149_5b, s149_8, s149_9, s149_10, s149_11, s149_12, s149_14, s149_19, s149_19b, s149_22, s149_23, s149_24, s149_25, s149_27, s149_31, Int.toNat_natCast, Int.toNat_natCast, Nat.reduceAdd, Nat.reduceMul, Int.reduceToNat, Int.reduceAdd, Int.reduceLT, Int.reduceLE, Int.reduceEq, Int.reduceNeg, Int.reduceMul, Int.reduceSub, Nat.reduceSub, reduceIte, ite_true, ite_false, and_true, true_and, and_self, m149_2 a1, m149_16 a2, e10, m149_28 h144]
    · rw [bI_f c] at a2
      refine ⟨G, ?_, hv, mq_r G⟩
      have h145 := sp145 (d := d - 1) (N := N) (L := L) (B := B) (by omega) hv ho hn6
      have h146 := sp146 (d := d - 1) (N := N) (L := L) (B := B) (by omega) hv ho hn6
      have h147 := sp147 (d := d - 1) (N := N) (L := L) (B := B) (by omega) hv ho hn6
      have h148 := sp148 (d := d - 1) (N := N) (L := L) (B := B) (by omega) hv ho h9 hm hn6
      obtain ⟨v0, v1, v2, vk, vv, vf, vr, vs⟩ := hv
      have er : ∀ x : Int, ¬ (10 ≤ x ∧ x < 14) → r55 (lsR 2 rc 9) (clR rc) H n x = if x = 0 then H 1 n else if x = 1 then H 2 n else if x = 2 then H 3 n else if x = 3 then hungS H n else if x = 4 then noteS (H 1 n) (H 2 n) else if x = 5 then offS (H 1 n) (H 2 n) (H 3 n) else if x = 6 then bI (tunS (lsR 2 rc 9) H n = true) else -1 := by
        intro x hx
        unfold r55
        rw [if_pos hB, if_neg hx, Int.toNat_natCast]
      rw [er w (by omega)]
      have hw' : w = 0 ∨ w = 1 ∨ w = 2 ∨ w = 3 ∨ w = 4 ∨ w = 5 ∨ w = 6 ∨ (¬ w = 0 ∧ ¬ w = 1 ∧ ¬ w = 2 ∧ ¬ w = 3 ∧ ¬ w = 4 ∧ ¬ w = 5 ∧ ¬ w = 6) := by omega
      refine e149 (by omega) ?_
      rcases hw' with rfl | rfl | rfl | rfl | rfl | rfl | rfl | ⟨n0, n1, n2, n3, n4, n5, n6⟩
      · simp (disch := omega) only [s149_0, s149_1, s149_5, s149_5b, s149_8, s149_9, s149_10, s149_11, s149_12, s149_14, s149_19, s149_19b, s149_22, s149_23, s149_24, s149_25, s149_27, s149_31, s149_32, s149_33, s149_76, m149_77, s149_80, m149_81, s149_82, s149_83, m149_84, s149_87, m149_88, s149_89, s149_90, m149_91, s149_94, m149_95, s149_96, s149_97, s149_98, s149_102, s149_103, s149_104, s149_108, s149_109, s149_110, s149_114, s149_115, s149_116, s149_120, s149_120b, s149_123, s149_124, s149_127, s149_128, s149_129, s149_130, Int.toNat_natCast, Int.toNat_natCast, Nat.reduceAdd, Nat.reduceMul, Int.reduceToNat, Int.reduceAdd, Int.reduceLT, Int.reduceLE, Int.reduceEq, Int.reduceNeg, Int.reduceMul, Int.reduceSub, Nat.reduceSub, reduceIte, ite_true, ite_false, and_true, true_and, and_self, m149_2 a1, m149_16 a2, vk n hn6]
      · simp (disch := omega) only [s149_0, s149_1, s149_5, s149_5b, s149_8, s149_9, s149_10, s149_11, s149_12, s149_14, s149_19, s149_19b, s149_22, s149_23, s149_24, s149_25, s149_27, s149_31, s149_32, s149_33, s149_76, m149_77, s149_80, m149_81, s149_82, s149_83, m149_84, s149_87, m149_88, s149_89, s149_90, m149_91, s149_94, m149_95, s149_96, s149_97, s149_98, s149_102, s149_103, s149_104, s149_108, s149_109, s149_110, s149_114, s149_115, s149_116, s149_120, s149_120b, s149_123, s149_124, s149_127, s149_128, s149_129, s149_130, Int.toNat_natCast, Int.toNat_natCast, Nat.reduceAdd, Nat.reduceMul, Int.reduceToNat, Int.reduceAdd, Int.reduceLT, Int.reduceLE, Int.reduceEq, Int.reduceNeg, Int.reduceMul, Int.reduceSub, Nat.reduceSub, reduceIte, ite_true, ite_false, and_true, true_and, and_self, m149_2 a1, m149_16 a2, vv n hn6]
      · simp (disch := omega) only [s149_0, s149_1, s149_5, s149_5b, s149_8, s149_9, s149_10, s149_11, s149_12, s149_14, s149_19, s149_19b, s149_22, s149_23, s149_24, s149_25, s149_27, s149_31, s149_32, s149_33, s149_76, m149_77, s149_80, m149_81, s149_82, s149_83, m149_84, s149_87, m149_88, s149_89, s149_90, m149_91, s149_94, m149_95, s149_96, s149_97, s149_98, s149_102, s149_103, s149_104, s149_108, s149_109, s149_110, s149_114, s149_115, s149_116, s149_120, s149_120b, s149_123, s149_124, s149_127, s149_128, s149_129, s149_130, Int.toNat_natCast, Int.toNat_natCast, Nat.reduceAdd, Nat.reduceMul, Int.reduceToNat, Int.reduceAdd, Int.reduceLT, Int.reduceLE, Int.reduceEq, Int.reduceNeg, Int.reduceMul, Int.reduceSub, Nat.reduceSub, reduceIte, ite_true, ite_false, and_true, true_and, and_self, m149_2 a1, m149_16 a2, vf n hn6]
      · simp (disch := omega) only [s149_0, s149_1, s149_5, s149_5b, s149_8, s149_9, s149_10, s149_11, s149_12, s149_14, s149_19, s149_19b, s149_22, s149_23, s149_24, s149_25, s149_27, s149_31, s149_32, s149_33, s149_76, m149_77, s149_80, m149_81, s149_82, s149_83, m149_84, s149_87, m149_88, s149_89, s149_90, m149_91, s149_94, m149_95, s149_96, s149_97, s149_98, s149_102, s149_103, s149_104, s149_108, s149_109, s149_110, s149_114, s149_115, s149_116, s149_120, s149_120b, s149_123, s149_124, s149_127, s149_128, s149_129, s149_130, Int.toNat_natCast, Int.toNat_natCast, Nat.reduceAdd, Nat.reduceMul, Int.reduceToNat, Int.reduceAdd, Int.reduceLT, Int.reduceLE, Int.reduceEq, Int.reduceNeg, Int.reduceMul, Int.reduceSub, Nat.reduceSub, reduceIte, ite_true, ite_false, and_true, true_and, and_self, m149_2 a1, m149_16 a2, m149_99 h145]
      · simp (disch := omega) only [s149_0, s149_1, s149_5, s149_5b, s149_8, s149_9, s149_10, s149_11, s149_12, s149_14, s149_19, s149_19b, s149_22, s149_23, s149_24, s149_25, s149_27, s149_31, s149_32, s149_33, s149_76, m149_77, s149_80, m149_81, s149_82, s149_83, m149_84, s149_87, m149_88, s149_89, s149_90, m149_91, s149_94, m149_95, s149_96, s149_97, s149_98, s149_102, s149_103, s149_104, s149_108, s149_109, s149_110, s149_114, s149_115, s149_116, s149_120, s149_120b, s149_123, s149_124, s149_127, s149_128, s149_129, s149_130, Int.toNat_natCast, Int.toNat_natCast, Nat.reduceAdd, Nat.reduceMul, Int.reduceToNat, Int.reduceAdd, Int.reduceLT, Int.reduceLE, Int.reduceEq, Int.reduceNeg, Int.reduceMul, Int.reduceSub, Nat.reduceSub, reduceIte, ite_true, ite_false, and_true, true_and, and_self, m149_2 a1, m149_16 a2, m149_105 h146]
      · simp (disch := omega) only [s149_0, s149_1, s149_5, s149_5b, s149_8, s149_9, s149_10, s149_11, s149_12, s149_14, s149_19, s149_19b, s149_22, s149_23, s149_24, s149_25, s149_27, s149_31, s149_32, s149_33, s149_76, m149_77, s149_80, m149_81, s149_82, s149_83, m149_84, s149_87, m149_88, s149_89, s149_90, m149_91, s149_94, m149_95, s149_96, s149_97, s149_98, s149_102, s149_103, s149_104, s149_108, s149_109, s149_110, s149_114, s149_115, s149_116, s149_120, s149_120b, s149_123, s149_124, s149_127, s149_128, s149_129, s149_130, Int.toNat_natCast, Int.toNat_natCast, Nat.reduceAdd, Nat.reduceMul, Int.reduceToNat, Int.reduceAdd, Int.reduceLT, Int.reduceLE, Int.reduceEq, Int.reduceNeg, Int.reduceMul, Int.reduceSub, Nat.reduceSub, reduceIte, ite_true, ite_false, and_true, true_and, and_self, m149_2 a1, m149_16 a2, m149_111 h147]
      · by_cases ct : tunS (lsR 2 rc 9) H n = true
        · rw [bI_t ct] at h148 ⊢
          simp (disch := omega) only [s149_0, s149_1, s149_5, s149_5b, s149_8, s149_9, s149_10, s149_11, s149_12, s149_14, s149_19, s149_19b, s149_22, s149_23, s149_24, s149_25, s149_27, s149_31, s149_32, s149_33, s149_76, m149_77, s149_80, m149_81, s149_82, s149_83, m149_84, s149_87, m149_88, s149_89, s149_90, m149_91, s149_94, m149_95, s149_96, s149_97, s149_98, s149_102, s149_103, s149_104, s149_108, s149_109, s149_110, s149_114, s149_115, s149_116, s149_120, s149_120b, s149_123, s149_124, s149_127, s149_128, s149_129, s149_130, Int.toNat_natCast, Int.toNat_natCast, Nat.reduceAdd, Nat.reduceMul, Int.reduceToNat, Int.reduceAdd, Int.reduceLT, Int.reduceLE, Int.reduceEq, Int.reduceNeg, Int.reduceMul, Int.reduceSub, Nat.reduceSub, reduceIte, ite_true, ite_false, and_true, true_and, and_self, m149_2 a1, m149_16 a2, m149_117 h148]
        · rw [bI_f ct] at h148 ⊢
          simp (disch := omega) only [s149_0, s149_1, s149_5, s149_5b, s149_8, s149_9, s149_10, s149_11, s149_12, s149_14, s149_19, s149_19b, s149_22, s149_23, s149_24, s149_25, s149_27, s149_31, s149_32, s149_33, s149_76, m149_77, s149_80, m149_81, s149_82, s149_83, m149_84, s149_87, m149_88, s149_89, s149_90, m149_91, s149_94, m149_95, s149_96, s149_97, s149_98, s149_102, s149_103, s149_104, s149_108, s149_109, s149_110, s149_114, s149_115, s149_116, s149_120, s149_120b, s149_123, s149_124, s149_127, s149_128, s149_129, s149_130, Int.toNat_natCast, Int.toNat_natCast, Nat.reduceAdd, Nat.reduceMul, Int.reduceToNat, Int.reduceAdd, Int.reduceLT, Int.reduceLE, Int.reduceEq, Int.reduceNeg, Int.reduceMul, Int.reduceSub, Nat.reduceSub, reduceIte, ite_true, ite_false, and_true, true_and, and_self, m149_2 a1, m149_16 a2, m149_117 h148]
      · simp (disch := omega) only [s149_0, s149_1, s149_5, s149_5b, s149_8, s149_9, s149_10, s149_11, s149_12, s149_14, s149_19, s149_19b, s149_22, s149_23, s149_24, s149_25, s149_27, s149_31, s149_32, s149_33, s149_76, m149_77, s149_80, m149_81, s149_82, s149_83, m149_84, s149_87, m149_88, s149_89, s149_90, m149_91, s149_94, m149_95, s149_96, s149_97, s149_98, s149_102, s149_103, s149_104, s149_108, s149_109, s149_110, s149_114, s149_115, s149_116, s149_120, s149_120b, s149_123, s149_124, s149_127, s149_128, s149_129, s149_130, Int.toNat_natCast, Int.toNat_natCast, Nat.reduceAdd, Nat.reduceMul, Int.reduceToNat, Int.reduceAdd, Int.reduceLT, Int.reduceLE, Int.reduceEq, Int.reduceNeg, Int.reduceMul, Int.reduceSub, Nat.reduceSub, reduceIte, ite_true, ite_false, and_true, true_and, and_self, m149_2 a1, m149_16 a2, n0, n1, n2, n3, n4, n5, n6]
  · rw [bI_f hB] at a1
    refine ⟨G, ?_, hv, mq_r G⟩
    have er : r55 (lsR 2 rc 9) (clR rc) H b w = -1 := by unfold r55; rw [if_neg hB]
    rw [er]
    refine e149 (by omega) ?_
    simp (disch := omega) only [s149_0, s149_1, s149_5, s149_5b, s149_8, s149_9, Int.toNat_natCast, Int.toNat_natCast, Nat.reduceAdd, Nat.reduceMul, Int.reduceToNat, Int.reduceAdd, Int.reduceLT, Int.reduceLE, Int.reduceEq, Int.reduceNeg, Int.reduceMul, Int.reduceSub, Nat.reduceSub, reduceIte, ite_true, ite_false, and_true, true_and, and_self, m149_2 a1]
