/-! the model: on, tuned, all, told, of -/
/-- the model's state as a whole -/
def ms (G H : q_Gi) (the : Int) (rc : List (Int × Int × List Int)) : Prop := mv G H ∧ Hok H ∧ G 82 9 = the ∧ mu G the rc
theorem ms_mf {G G' H H' : q_Gi} {the : Int} {rc : List (Int × Int × List Int)} (h : ms G H the rc) (f : mf G G') (hv : mv G' H') (ho : Hok H') : ms G' H' the rc := ⟨hv, ho, mf_9 f h.2.2.1, mf_mu f h.2.2.2⟩
theorem ms_mq {G G' H H' : q_Gi} {the : Int} {rc : List (Int × Int × List Int)} (h : ms G H the rc) (f : mq G G') (hv : mv G' H') (ho : Hok H') : ms G' H' the rc := ⟨hv, ho, mq_9 f h.2.2.1, mq_mu f h.2.2.2⟩
theorem sp156 {d n N L : Nat} {the : Int} {rc : List (Int × Int × List Int)} {B : q_Bv} {G H : q_Gi} (hd : 4 ≤ d) (h : ms G H the rc) (hn : n ≤ 60) (hday : H 0 1 + (n : Int) ≤ 20000) : ∃ G', Sp d 156 [.ref 82, vI n] (hp N L B G) none (hp N L B G') ∧ mv G' (daysS (lsR 3 rc 0) n H) ∧ mf G G' := by
  obtain ⟨hv, ho, h9, hm⟩ := h
  obtain ⟨r1, X1, hS, G', hr, hX, q⟩ := E156 (d := d) (X := hp N L B G) (z1 := (n : Int)) (Q := fun r1 X1 => ∃ G', r1 = none ∧ X1 = hp N L B G' ∧ mv G' (daysS (lsR 3 rc 0) n H) ∧ mf G G') (by omega) (by
    simp (disch := omega) only [s156_0, s156_1, Int.toNat_natCast, Int.toNat_natCast, Nat.reduceAdd, Nat.reduceMul, Int.reduceToNat, Int.reduceAdd, Int.reduceLT, Int.reduceLE, Int.reduceEq, Int.reduceNeg, Int.reduceMul, Int.reduceSub, Nat.reduceSub, reduceIte, ite_true, ite_false, and_true, true_and, and_self]
    exact lp156 (d := d - 1) (by omega) hm h9 n 0 G H (by omega) (by omega) hv ho hday (mf_r G) (fun G' h1 h2 => ⟨G', rfl, rfl, h1, h2⟩))
  exact ⟨G', by rw [hr, hX] at hS; exact hS, q⟩
theorem daysS_ok {g : Int} (hg : 0 ≤ g ∧ g ≤ 99) : ∀ (n : Nat) (H : q_Gi), Hok H → H 0 1 + (n : Int) ≤ 20000 → Hok (daysS g n H)
  | 0, H, ho, _ => ho
  | n + 1, H, ho, hd => daysS_ok hg n (dayS g H) (dayS_ok hg ho (by omega)) (by have : dayS g H 0 1 = H 0 1 + 1 := rfl; omega)
theorem sp162 {d N L : Nat} {the n w : Int} {rc : List (Int × Int × List Int)} {B : q_Bv} {G H : q_Gi} (hd : 8 ≤ d) (h : ms G H the rc) (hday : H 0 1 ≤ 9999) (hM : G 82 26 = 99999) (hn : -2147483648 ≤ n ∧ n ≤ 2147483647) (hw : -2147483648 ≤ w ∧ w ≤ 2147483647) : ∃ G', Sp d 162 [.ref 82, vI n, vI w] (hp N L B G) (some (vI (r65 (lsR 2 rc 9) (lsR 3 rc 0) H n w))) (hp N L B G') ∧ mv G' H ∧ G' 82 26 = 99999 ∧ mq G G' := by
  have h0 := h
  obtain ⟨hv, ho, h9, hm⟩ := h
  have v0 := hv.1
  have hb := ho.1
  have a1 := sp109 (d := d - 1) (z := w) (lo := 10) (hi := 9 + H 0 0) (X := hp N L B G) (by omega) hw (by omega) (by omega)
  have a2 := sp109 (d := d - 1) (z := w) (lo := 20) (hi := 23) (X := hp N L B G) (by omega) hw (by omega) (by omega)
  have a3 := sp116 (d := d - 1) (z := n) (N := N) (L := L) (B := B) (G := G) (by omega) hn
  rw [bI_c (show (10 ≤ w ∧ w ≤ 9 + H 0 0) ↔ (10 ≤ w ∧ w < 10 + H 0 0) by omega)] at a1
  rw [bI_c (show (20 ≤ w ∧ w ≤ 23) ↔ (20 ≤ w ∧ w < 24) by omega)] at a2
  have hg := lsR_r (w := 3) rc 0 (rcs_ok hm) (by omega)
  -- the conditions
  have pre : ∀ (R : Option Value → q_H → Prop), (w = 0 ∨ (10 ≤ w ∧ w < 10 + H 0 0) ∨ (20 ≤ w ∧ w < 24)) → WP (d - 1) 162 35 [.ref 82, vI n, vI w, .null] [] (hp N L B G) R → WP (d - 1) 162 0 [.ref 82, vI n, vI w, .null] [] (hp N L B G) R := by
    intro R hc hR
    by_cases c0 : w = 0
    · have c0' := eq_true c0
      simp (disch := omega) only [s162_0, s162_1, s162_1b, s162_4, s162_5, s162_6, s162_8, s162_10, m162_11, s162_14, s162_18, s162_18b, s162_21, s162_22, s162_23, s162_25, s162_30, s162_30b, s162_33, Int.toNat_natCast, Int.toNat_natCast, Nat.reduceAdd, Nat.reduceMul, Int.reduceToNat, Int.reduceAdd, Int.reduceLT, Int.reduceLE, Int.reduceEq, Int.reduceNeg, Int.reduceMul, Int.reduceSub, Nat.reduceSub, reduceIte, ite_true, ite_false, and_true, true_and, and_self, c0', if_true]
      exact hR
    · by_cases c1 : 10 ≤ w ∧ w < 10 + H 0 0
      · rw [bI_t c1] at a1
        have c0' := eq_false c0
        simp (disch := omega) only [s162_0, s162_1, s162_1b, s162_4, s162_5, s162_6, s162_8, s162_10, m162_11, s162_14, s162_18, s162_18b, s162_21, s162_22, s162_23, s162_25, s162_30, s162_30b, s162_33, Int.toNat_natCast, Int.toNat_natCast, Nat.reduceAdd, Nat.reduceMul, Int.reduceToNat, Int.reduceAdd, Int.reduceLT, Int.reduceLE, Int.reduceEq, Int.reduceNeg, Int.reduceMul, Int.reduceSub, Nat.reduceSub, reduceIte, ite_true, ite_false, and_true, true_and, and_self, c0', if_false, v0, m162_15 a1]
        exact hR
      · have c2 : 20 ≤ w ∧ w < 24 := by omega
        rw [bI_f c1] at a1
        rw [bI_t c2] at a2
        have c0' := eq_false c0
        simp (disch := omega) only [s162_0, s162_1, s162_1b, s162_4, s162_5, s162_6, s162_8, s162_10, m162_11, s162_14, s162_18, s162_18b, s162_21, s162_22, s162_23, s162_25, s162_30, s162_30b, s162_33, Int.toNat_natCast, Int.toNat_natCast, Nat.reduceAdd, Nat.reduceMul, Int.reduceToNat, Int.reduceAdd, Int.reduceLT, Int.reduceLE, Int.reduceEq, Int.reduceNeg, Int.reduceMul, Int.reduceSub, Nat.reduceSub, reduceIte, ite_true, ite_false, and_true, true_and, and_self, c0', if_false, v0, m162_15 a1, m162_27 a2]
        exact hR
  unfold r65
  by_cases hc : w = 0 ∨ (10 ≤ w ∧ w < 10 + H 0 0) ∨ (20 ≤ w ∧ w < 24)
  · rw [if_pos hc]
    by_cases hn2 : 0 ≤ n ∧ n ≤ 60
    · rw [if_pos hn2]
      rw [bI_t hn2] at a3
      obtain ⟨k, rfl⟩ : ∃ k : Nat, n = (k : Int) := ⟨n.toNat, by omega⟩
      rw [Int.toNat_natCast]
      obtain ⟨G1, h160, w1, k1, m1, f1⟩ := sp160 (d := d - 1) (N := N) (L := L) (B := B) (by omega) hv
      have ms1 : ms G1 H the rc := ms_mq h0 (mq_sf f1) w1 ho
      obtain ⟨G2, h156, w2, f2⟩ := sp156 (d := d - 1) (n := k) (N := N) (L := L) (B := B) (by omega) ms1 (by omega) (by omega)
      have ok2 := daysS_ok hg k H ho (by omega)
      have ms2 := ms_mf ms1 f2 w2 ok2
      have h150 := sp150 (d := d - 1) (N := N) (L := L) (B := B) (by omega) ms2.1 ms2.2.1 ms2.2.2.1 ms2.2.2.2
      have sk := sameK_days (lsR 3 rc 0) k H
      rw [sk.1] at h150
      obtain ⟨G3, h161, w3, m3, f3⟩ := sp161 (d := d - 1) (N := N) (L := L) (B := B) (by omega) w2 sk (ks_f k1 f2)
      refine ⟨G3, ?_, w3, m3, mq_t (mq_sf f1) (mq_t (mq_mf f2) (mq_pb f3))⟩
      refine e162 (by omega) (pre _ hc ?_)
      obtain ⟨x0, x1, x2, xk, xv, xf, xr, xs⟩ := w2
      by_cases c1 : 10 ≤ w ∧ w < 10 + H 0 0
      · rw [if_pos c1]
        have xw := xf (w - 10).toNat (by omega)
        have n0 : ¬ w = 0 := by omega
        have n1 : w < 20 := by omega
        simp (disch := omega) only [s162_35, s162_36, s162_40, s162_40b, s162_43, s162_45, s162_46, s162_50, s162_51, s162_55, s162_56, s162_56b, s162_59, s162_63, s162_66, s162_67, s162_69, s162_72, m162_73, s162_76, s162_77, s162_79, m162_80, s162_81, s162_84, m162_85, s162_88, s162_89, s162_91, m162_92, s162_93, s162_94, s162_98, s162_99, Int.toNat_natCast, Int.toNat_natCast, Nat.reduceAdd, Nat.reduceMul, Int.reduceToNat, Int.reduceAdd, Int.reduceLT, Int.reduceLE, Int.reduceEq, Int.reduceNeg, Int.reduceMul, Int.reduceSub, Nat.reduceSub, reduceIte, ite_true, ite_false, and_true, true_and, and_self, m162_37 a3, m162_47 h160, m162_52 h156, n0, n1, xw, m162_95 h161]
      rw [if_neg c1]
      by_cases c2 : 20 ≤ w ∧ w < 24
      · rw [if_pos c2]
        have xw := xs (w - 20).toNat (by omega)
        have n0 : ¬ w = 0 := by omega
        have n1 : ¬ w < 20 := by omega
        simp (disch := omega) only [s162_35, s162_36, s162_40, s162_40b, s162_43, s162_45, s162_46, s162_50, s162_51, s162_55, s162_56, s162_56b, s162_59, s162_63, s162_66, s162_67, s162_69, s162_72, m162_73, s162_76, s162_77, s162_79, m162_80, s162_81, s162_84, m162_85, s162_88, s162_89, s162_91, m162_92, s162_93, s162_94, s162_98, s162_99, Int.toNat_natCast, Int.toNat_natCast, Nat.reduceAdd, Nat.reduceMul, Int.reduceToNat, Int.reduceAdd, Int.reduceLT, Int.reduceLE, Int.reduceEq, Int.reduceNeg, Int.reduceMul, Int.reduceSub, Nat.reduceSub, reduceIte, ite_true, ite_false, and_true, true_and, and_self, m162_37 a3, m162_47 h160, m162_52 h156, n0, n1, xw, m162_95 h161]
      · rw [if_neg c2]
        have n0 : w = 0 := by omega
        subst n0
        simp (disch := omega) only [s162_35, s162_36, s162_40, s162_40b, s162_43, s162_45, s162_46, s162_50, s162_51, s162_55, s162_56, s162_56b, s162_59, s162_63, s162_66, s162_67, s162_69, s162_72, m162_73, s162_76, s162_77, s162_79, m162_80, s162_81, s162_84, m162_85, s162_88, s162_89, s162_91, m162_92, s162_93, s162_94, s162_98, s162_99, Int.toNat_natCast, Int.toNat_natCast, Nat.reduceAdd, Nat.reduceMul, Int.reduceToNat, Int.reduceAdd, Int.reduceLT, Int.reduceLE, Int.reduceEq, Int.reduceNeg, Int.reduceMul, Int.reduceSub, Nat.reduceSub, reduceIte, ite_true, ite_false, and_true, true_and, and_self, m162_37 a3, m162_47 h160, m162_52 h156, m162_60 h150, m162_95 h161]
    · rw [if_neg hn2]
      rw [bI_f hn2] at a3
      refine ⟨G, ?_, hv, hM, mq_r G⟩
      refine e162 (by omega) (pre _ hc ?_)
      simp (disch := omega) only [s162_35, s162_36, s162_40, s162_40b, s162_43, s162_45, Int.toNat_natCast, Int.toNat_natCast, Nat.reduceAdd, Nat.reduceMul, Int.reduceToNat, Int.reduceAdd, Int.reduceLT, Int.reduceLE, Int.reduceEq, Int.reduceNeg, Int.reduceMul, Int.reduceSub, Nat.reduceSub, reduceIte, ite_true, ite_false, and_true, true_and, and_self, m162_37 a3]
  · rw [if_neg hc]
    refine ⟨G, ?_, hv, hM, mq_r G⟩
    have n0 : ¬ w = 0 := fun e => hc (Or.inl e)
    rw [bI_f (fun e => hc (Or.inr (Or.inl e)))] at a1
    rw [bI_f (fun e => hc (Or.inr (Or.inr e)))] at a2
    refine e162 (by omega) ?_
    simp (disch := omega) only [s162_0, s162_1, s162_1b, s162_4, s162_5, s162_6, s162_8, s162_10, m162_11, s162_14, s162_18, s162_18b, s162_21, s162_22, s162_23, s162_25, s162_30, s162_30b, s162_33, s162_34, Int.toNat_natCast, Int.toNat_natCast, Nat.reduceAdd, Nat.reduceMul, Int.reduceToNat, Int.reduceAdd, Int.reduceLT, Int.reduceLE, Int.reduceEq, Int.reduceNeg, Int.reduceMul, Int.reduceSub, Nat.reduceSub, reduceIte, ite_true, ite_false, and_true, true_and, and_self, n0, v0, m162_15 a1, m162_27 a2]
