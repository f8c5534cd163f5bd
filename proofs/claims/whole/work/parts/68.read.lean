/-! the class's reader -/
theorem ug_ug {G : q_Gi} {a k : Nat} {x y : Int} : ug (ug G a k x) a k y = ug G a k y := by
  funext b j
  rw [ug_b, ug_b, ug_b]
  split <;> rfl
theorem ug_id {G : q_Gi} {a k : Nat} {x : Int} (h : G a k = x) : ug G a k x = G := by
  funext b j
  rw [ug_b]
  split
  · rename_i h2; rw [h2.1, h2.2, h]
  · rfl
def nxG (G : q_Gi) (n p : Nat) : Int := if p < n then G 57 p else -1
/-- n bytes lie in the reader -/
def rdr (G : q_Gi) (n : Nat) : Prop := G 56 1 = (n : Int) ∧ n ≤ 100 ∧ ∀ j, j < n → 0 ≤ G 57 j ∧ G 57 j ≤ 127
theorem txt_of {G : q_Gi} {n : Nat} (h : rdr G n) : txt (nxG G n) n := by
  refine ⟨fun p hp => ?_, fun p hp => ?_⟩
  · unfold nxG; rw [if_neg (by omega)]
  · unfold nxG; rw [if_pos hp]; exact h.2.2 p hp
theorem nxG_r {G : q_Gi} {n : Nat} (h : rdr G n) (p : Nat) : -1 ≤ nxG G n p ∧ nxG G n p ≤ 127 := by
  unfold nxG
  split
  · rename_i hp; have := h.2.2 p hp; omega
  · omega
theorem sp30_t {d n p N L : Nat} {c : Int} {B : q_Bv} {G : q_Gi} (hd : 1 ≤ d) (h : rdr G n) (hc : 0 ≤ c) (e : nxG G n p = c) : Sp d 30 [.ref 56, vI c] (hp N L B (ug G 56 2 p)) (some (vI 1)) (hp N L B (ug G 56 2 ((p + 1 : Nat) : Int))) := by
  have l := txt_lt (txt_of h) hc e
  have hr := nxG_r h p
  unfold nxG at e hr
  rw [if_pos l] at e hr
  have l2 : (p : Int) < (n : Int) := by omega
  have hn := h.2.1
  refine e30 (by omega) ?_
  simp (disch := omega) only [s30_0, m30_1, s30_4, m30_5, s30_8, s30_11, m30_12, s30_15, m30_16, m30_19, s30_20, s30_21, s30_21b, s30_24, s30_25, s30_25b, s30_26, s30_27, m30_28, s30_31, s30_32, m30_33, s30_36, s30_37, s30_37b, Int.toNat_natCast, Int.toNat_natCast, Nat.reduceAdd, Nat.reduceMul, Int.reduceToNat, Int.reduceAdd, Int.reduceLT, Int.reduceLE, Int.reduceEq, Int.reduceNeg, Int.reduceMul, Int.reduceSub, Nat.reduceSub, reduceIte, ite_true, ite_false, and_true, true_and, and_self, ug_at, ug_k, ug_ne, ug_ug, h.1, l2, e]
  rfl
theorem sp30_f {d n p N L : Nat} {c : Int} {B : q_Bv} {G : q_Gi} (hd : 1 ≤ d) (h : rdr G n) (hc : 0 ≤ c ∧ c ≤ 127) (hpn : p ≤ n) (e : ¬ nxG G n p = c) : Sp d 30 [.ref 56, vI c] (hp N L B (ug G 56 2 p)) (some (vI 0)) (hp N L B (ug G 56 2 p)) := by
  have hr := nxG_r h p
  unfold nxG at e hr
  have hn := h.2.1
  by_cases l : p < n
  · rw [if_pos l] at e hr
    have l2 : (p : Int) < (n : Int) := by omega
    refine e30 (by omega) ?_
    simp (disch := omega) only [s30_0, m30_1, s30_4, m30_5, s30_8, s30_11, m30_12, s30_15, m30_16, m30_19, s30_20, s30_21, s30_21b, s30_24, s30_25, s30_25b, s30_26, s30_27, m30_28, s30_31, s30_32, m30_33, s30_36, s30_37, s30_37b, Int.toNat_natCast, Int.toNat_natCast, Nat.reduceAdd, Nat.reduceMul, Int.reduceToNat, Int.reduceAdd, Int.reduceLT, Int.reduceLE, Int.reduceEq, Int.reduceNeg, Int.reduceMul, Int.reduceSub, Nat.reduceSub, reduceIte, ite_true, ite_false, and_true, true_and, and_self, ug_at, ug_k, ug_ne, ug_ug, h.1, l2, e]
  · have l2 : ¬ (p : Int) < (n : Int) := by omega
    refine e30 (by omega) ?_
    simp (disch := omega) only [s30_0, m30_1, s30_4, m30_5, s30_8, s30_11, m30_12, s30_15, m30_16, m30_19, s30_20, s30_21, s30_21b, s30_24, s30_25, s30_25b, s30_26, s30_27, m30_28, s30_31, s30_32, m30_33, s30_36, s30_37, s30_37b, Int.toNat_natCast, Int.toNat_natCast, Nat.reduceAdd, Nat.reduceMul, Int.reduceToNat, Int.reduceAdd, Int.reduceLT, Int.reduceLE, Int.reduceEq, Int.reduceNeg, Int.reduceMul, Int.reduceSub, Nat.reduceSub, reduceIte, ite_true, ite_false, and_true, true_and, and_self, ug_at, ug_k, ug_ne, ug_ug, h.1, l2]
theorem sp29 {d n p k N L : Nat} {c : Int} {B : q_Bv} {G : q_Gi} (hd : 1 ≤ d) (h : rdr G n) (hc : 0 ≤ c ∧ c ≤ 127) (hpn : p ≤ n) (hk : k ≤ 1) : Sp d 29 [.ref 56, vI k, vI c] (hp N L B (ug G 56 2 p)) (some (vI (bI (nxG G n (p + k) = c)))) (hp N L B (ug G 56 2 p)) := by
  have hr := nxG_r h (p + k)
  unfold nxG at hr ⊢
  have hn := h.2.1
  by_cases l : p + k < n
  · rw [if_pos l] at hr ⊢
    have l2 : (p : Int) + (k : Int) < (n : Int) := by omega
    have e : ((p : Int) + (k : Int)).toNat = p + k := by omega
    refine e29 (by omega) ?_
    by_cases cc : G 57 (p + k) = c
    · rw [bI_t cc]
      simp (disch := omega) only [s29_0, m29_1, s29_4, s29_5, s29_6, s29_7, s29_8, m29_9, s29_12, s29_15, m29_16, s29_19, m29_20, s29_21, s29_22, s29_22b, s29_25, s29_26, s29_29, s29_30, s29_30b, Int.toNat_natCast, Int.toNat_natCast, Nat.reduceAdd, Nat.reduceMul, Int.reduceToNat, Int.reduceAdd, Int.reduceLT, Int.reduceLE, Int.reduceEq, Int.reduceNeg, Int.reduceMul, Int.reduceSub, Nat.reduceSub, reduceIte, ite_true, ite_false, and_true, true_and, and_self, ug_at, ug_k, ug_ne, ug_ug, h.1, l2, e, cc]
    · rw [bI_f cc]
      simp (disch := omega) only [s29_0, m29_1, s29_4, s29_5, s29_6, s29_7, s29_8, m29_9, s29_12, s29_15, m29_16, s29_19, m29_20, s29_21, s29_22, s29_22b, s29_25, s29_26, s29_29, s29_30, s29_30b, Int.toNat_natCast, Int.toNat_natCast, Nat.reduceAdd, Nat.reduceMul, Int.reduceToNat, Int.reduceAdd, Int.reduceLT, Int.reduceLE, Int.reduceEq, Int.reduceNeg, Int.reduceMul, Int.reduceSub, Nat.reduceSub, reduceIte, ite_true, ite_false, and_true, true_and, and_self, ug_at, ug_k, ug_ne, ug_ug, h.1, l2, e, cc]
  · rw [if_neg l]
    have l2 : ¬ (p : Int) + (k : Int) < (n : Int) := by omega
    have e : ¬ (-1 : Int) = c := by omega
    rw [bI_f e]
    refine e29 (by omega) ?_
    simp (disch := omega) only [s29_0, m29_1, s29_4, s29_5, s29_6, s29_7, s29_8, m29_9, s29_12, s29_15, m29_16, s29_19, m29_20, s29_21, s29_22, s29_22b, s29_25, s29_26, s29_29, s29_30, s29_30b, Int.toNat_natCast, Int.toNat_natCast, Nat.reduceAdd, Nat.reduceMul, Int.reduceToNat, Int.reduceAdd, Int.reduceLT, Int.reduceLE, Int.reduceEq, Int.reduceNeg, Int.reduceMul, Int.reduceSub, Nat.reduceSub, reduceIte, ite_true, ite_false, and_true, true_and, and_self, ug_at, ug_k, ug_ne, ug_ug, h.1, l2]
theorem sp33 {d n p N L : Nat} {B : q_Bv} {G : q_Gi} (hd : 1 ≤ d) (h : rdr G n) (hpn : p ≤ n) : Sp d 33 [.ref 56] (hp N L B (ug G 56 2 p)) (some (vI (numS (nxG G n) p).1)) (hp N L B (ug G 56 2 ((numS (nxG G n) p).2 : Nat))) := by
  have hn := h.2.1
  have hr := nxG_r h p
  have hr2 := nxG_r h (p + 1)
  unfold numS
  have dz : ∀ q, nxG G n q = if q < n then G 57 q else -1 := fun _ => rfl
  by_cases l : p < n
  · have l2 : (p : Int) < (n : Int) := by omega
    have e1 : nxG G n p = G 57 p := by rw [dz, if_pos l]
    rw [e1] at hr
    by_cases c1 : digS (G 57 p) = true
    · have d1 := digS_e.mp c1
      have a1 : ¬ G 57 p - 48 < 0 := by omega
      have a2 : ¬ 9 < G 57 p - 48 := by omega
      have a2' : G 57 p - 48 ≤ 9 := by omega
      have m0 : max (-1 : Int) 0 = 0 := rfl
      have z0 : (0 : Int) + (G 57 p - 48) = G 57 p - 48 := by omega
      have m1 : max (G 57 p - 48) 0 = G 57 p - 48 := by omega
      have ep : (p : Int) + 1 = ((p + 1 : Nat) : Int) := rfl
      by_cases l3 : p + 1 < n
      · have l4 : ((p + 1 : Nat) : Int) < (n : Int) := by omega
        have e2 : nxG G n (p + 1) = G 57 (p + 1) := by rw [dz, if_pos l3]
        rw [e2] at hr2
        by_cases c2 : digS (G 57 (p + 1)) = true
        · have d2 := digS_e.mp c2
          have b1 : ¬ G 57 (p + 1) - 48 < 0 := by omega
          have b2 : ¬ 9 < G 57 (p + 1) - 48 := by omega
          have b2' : G 57 (p + 1) - 48 ≤ 9 := by omega
          have ep2 : ((p + 1 : Nat) : Int) + 1 = ((p + 2 : Nat) : Int) := rfl
          rw [e1, e2, if_pos c1, if_pos c2]
          refine e33 (by omega) ?_
          simp (disch := omega) only [s33_0, s33_1, s33_2, s33_3, s33_4, s33_5, s33_6, s33_9, m33_10, s33_13, m33_14, s33_17, s33_20, m33_21, s33_24, m33_25, m33_28, s33_29, s33_31, s33_32, s33_33, s33_34, s33_37, s33_38, s33_40, s33_43, s33_44, s33_45, s33_46, s33_47, s33_50, s33_52, s33_53, s33_54, s33_55, s33_56, s33_57, m33_58, s33_61, s33_62, m33_63, s33_66, s33_69, s33_72, s33_73, Int.toNat_natCast, Int.toNat_natCast, Nat.reduceAdd, Nat.reduceMul, Int.reduceToNat, Int.reduceAdd, Int.reduceLT, Int.reduceLE, Int.reduceEq, Int.reduceNeg, Int.reduceMul, Int.reduceSub, Nat.reduceSub, reduceIte, ite_true, ite_false, and_true, true_and, and_self, ug_at, ug_k, ug_ne, ug_ug, h.1, l2, a1, a2, a2', m0, z0, m1, ep, l4, b1, b2, b2', ep2]
        · have b1 : G 57 (p + 1) - 48 < 0 ∨ ¬ G 57 (p + 1) - 48 < 0 := by omega
          rw [e1, e2, if_pos c1, if_neg c2]
          refine e33 (by omega) ?_
          rcases b1 with b1 | b1
          · simp (disch := omega) only [s33_0, s33_1, s33_2, s33_3, s33_4, s33_5, s33_6, s33_9, m33_10, s33_13, m33_14, s33_17, s33_20, m33_21, s33_24, m33_25, m33_28, s33_29, s33_31, s33_32, s33_33, s33_34, s33_37, s33_38, s33_40, s33_43, s33_44, s33_45, s33_46, s33_47, s33_50, s33_52, s33_53, s33_54, s33_55, s33_56, s33_57, m33_58, s33_61, s33_62, m33_63, s33_66, s33_69, s33_72, s33_73, Int.toNat_natCast, Int.toNat_natCast, Nat.reduceAdd, Nat.reduceMul, Int.reduceToNat, Int.reduceAdd, Int.reduceLT, Int.reduceLE, Int.reduceEq, Int.reduceNeg, Int.reduceMul, Int.reduceSub, Nat.reduceSub, reduceIte, ite_true, ite_false, and_true, true_and, and_self, ug_at, ug_k, ug_ne, ug_ug, h.1, l2, a1, a2, a2', m0, z0, m1, ep, l4, b1]
          · have b2 : 9 < G 57 (p + 1) - 48 := by
              have : ¬ (48 ≤ G 57 (p + 1) ∧ G 57 (p + 1) ≤ 57) := fun h => c2 (digS_e.mpr h)
              omega
            have b2' : ¬ G 57 (p + 1) - 48 ≤ 9 := by omega
            simp (disch := omega) only [s33_0, s33_1, s33_2, s33_3, s33_4, s33_5, s33_6, s33_9, m33_10, s33_13, m33_14, s33_17, s33_20, m33_21, s33_24, m33_25, m33_28, s33_29, s33_31, s33_32, s33_33, s33_34, s33_37, s33_38, s33_40, s33_43, s33_44, s33_45, s33_46, s33_47, s33_50, s33_52, s33_53, s33_54, s33_55, s33_56, s33_57, m33_58, s33_61, s33_62, m33_63, s33_66, s33_69, s33_72, s33_73, Int.toNat_natCast, Int.toNat_natCast, Nat.reduceAdd, Nat.reduceMul, Int.reduceToNat, Int.reduceAdd, Int.reduceLT, Int.reduceLE, Int.reduceEq, Int.reduceNeg, Int.reduceMul, Int.reduceSub, Nat.reduceSub, reduceIte, ite_true, ite_false, and_true, true_and, and_self, ug_at, ug_k, ug_ne, ug_ug, h.1, l2, a1, a2, a2', m0, z0, m1, ep, l4, b1, b2, b2']
      · have l4 : ¬ ((p + 1 : Nat) : Int) < (n : Int) := by omega
        have e2 : nxG G n (p + 1) = -1 := by rw [dz, if_neg l3]
        have c2 : ¬ digS (-1) = true := by decide
        rw [e1, e2, if_pos c1, if_neg c2]
        refine e33 (by omega) ?_
        simp (disch := omega) only [s33_0, s33_1, s33_2, s33_3, s33_4, s33_5, s33_6, s33_9, m33_10, s33_13, m33_14, s33_17, s33_20, m33_21, s33_24, m33_25, m33_28, s33_29, s33_31, s33_32, s33_33, s33_34, s33_37, s33_38, s33_40, s33_43, s33_44, s33_45, s33_46, s33_47, s33_50, s33_52, s33_53, s33_54, s33_55, s33_56, s33_57, m33_58, s33_61, s33_62, m33_63, s33_66, s33_69, s33_72, s33_73, Int.toNat_natCast, Int.toNat_natCast, Nat.reduceAdd, Nat.reduceMul, Int.reduceToNat, Int.reduceAdd, Int.reduceLT, Int.reduceLE, Int.reduceEq, Int.reduceNeg, Int.reduceMul, Int.reduceSub, Nat.reduceSub, reduceIte, ite_true, ite_false, and_true, true_and, and_self, ug_at, ug_k, ug_ne, ug_ug, h.1, l2, a1, a2, a2', m0, z0, m1, ep, l4]
    · rw [e1, if_neg c1]
      have b1 : G 57 p - 48 < 0 ∨ ¬ G 57 p - 48 < 0 := by omega
      refine e33 (by omega) ?_
      rcases b1 with b1 | b1
      · simp (disch := omega) only [s33_0, s33_1, s33_2, s33_3, s33_4, s33_5, s33_6, s33_9, m33_10, s33_13, m33_14, s33_17, s33_20, m33_21, s33_24, m33_25, m33_28, s33_29, s33_31, s33_32, s33_33, s33_34, s33_37, s33_38, s33_40, s33_43, s33_44, s33_45, s33_46, s33_47, s33_50, s33_52, s33_53, s33_54, s33_55, s33_56, s33_57, m33_58, s33_61, s33_62, m33_63, s33_66, s33_69, s33_72, s33_73, Int.toNat_natCast, Int.toNat_natCast, Nat.reduceAdd, Nat.reduceMul, Int.reduceToNat, Int.reduceAdd, Int.reduceLT, Int.reduceLE, Int.reduceEq, Int.reduceNeg, Int.reduceMul, Int.reduceSub, Nat.reduceSub, reduceIte, ite_true, ite_false, and_true, true_and, and_self, ug_at, ug_k, ug_ne, ug_ug, h.1, l2, b1]
      · have b2 : 9 < G 57 p - 48 := by
          have : ¬ (48 ≤ G 57 p ∧ G 57 p ≤ 57) := fun h => c1 (digS_e.mpr h)
          omega
        have b2' : ¬ G 57 p - 48 ≤ 9 := by omega
        simp (disch := omega) only [s33_0, s33_1, s33_2, s33_3, s33_4, s33_5, s33_6, s33_9, m33_10, s33_13, m33_14, s33_17, s33_20, m33_21, s33_24, m33_25, m33_28, s33_29, s33_31, s33_32, s33_33, s33_34, s33_37, s33_38, s33_40, s33_43, s33_44, s33_45, s33_46, s33_47, s33_50, s33_52, s33_53, s33_54, s33_55, s33_56, s33_57, m33_58, s33_61, s33_62, m33_63, s33_66, s33_69, s33_72, s33_73, Int.toNat_natCast, Int.toNat_natCast, Nat.reduceAdd, Nat.reduceMul, Int.reduceToNat, Int.reduceAdd, Int.reduceLT, Int.reduceLE, Int.reduceEq, Int.reduceNeg, Int.reduceMul, Int.reduceSub, Nat.reduceSub, reduceIte, ite_true, ite_false, and_true, true_and, and_self, ug_at, ug_k, ug_ne, ug_ug, h.1, l2, b1, b2, b2']
  · have l2 : ¬ (p : Int) < (n : Int) := by omega
    have e1 : nxG G n p = -1 := by rw [dz, if_neg l]
    have c1 : ¬ digS (-1) = true := by decide
    rw [e1, if_neg c1]
    refine e33 (by omega) ?_
    simp (disch := omega) only [s33_0, s33_1, s33_2, s33_3, s33_4, s33_5, s33_6, s33_9, m33_10, s33_13, m33_14, s33_17, s33_20, m33_21, s33_24, m33_25, m33_28, s33_29, s33_31, s33_32, s33_33, s33_34, s33_37, s33_38, s33_40, s33_43, s33_44, s33_45, s33_46, s33_47, s33_50, s33_52, s33_53, s33_54, s33_55, s33_56, s33_57, m33_58, s33_61, s33_62, m33_63, s33_66, s33_69, s33_72, s33_73, Int.toNat_natCast, Int.toNat_natCast, Nat.reduceAdd, Nat.reduceMul, Int.reduceToNat, Int.reduceAdd, Int.reduceLT, Int.reduceLE, Int.reduceEq, Int.reduceNeg, Int.reduceMul, Int.reduceSub, Nat.reduceSub, reduceIte, ite_true, ite_false, and_true, true_and, and_self, ug_at, ug_k, ug_ne, ug_ug, h.1, l2]
/-! Strings -/
theorem ro_1010_0 : q_ro 1010 0 = .ref 1020 := rfl
theorem ro_1010_1 : q_ro 1010 1 = vI 0 := rfl
theorem sp212_0 {d : Nat} {X : q_H} (hd : 1 ≤ d) : Sp d 212 [.ref 1010] X (some (vI 0)) X := by
  refine e212 (by omega) ?_
  simp (disch := first | omega | decide) only [s212_0, s212_3, s212_3b, s212_6, s212_7, s212_10, s212_13, s212_14, Int.toNat_natCast, Int.toNat_natCast, Nat.reduceAdd, Nat.reduceMul, Int.reduceToNat, Int.reduceAdd, Int.reduceLT, Int.reduceLE, Int.reduceEq, Int.reduceNeg, Int.reduceMul, Int.reduceSub, Nat.reduceSub, reduceIte, ite_true, ite_false, and_true, true_and, and_self, ro_1010_1]
theorem sp213_0 {d : Nat} {X : q_H} (hd : 1 ≤ d) : Sp d 213 [.ref 1010] X (some (vI 1)) X := by
  refine e213 (by omega) ?_
  simp (disch := first | omega | decide) only [s213_0, s213_3, s213_3b, s213_6, s213_7, s213_10, s213_10b, s213_13, s213_14, s213_17, s213_18, s213_18b, Int.toNat_natCast, Int.toNat_natCast, Nat.reduceAdd, Nat.reduceMul, Int.reduceToNat, Int.reduceAdd, Int.reduceLT, Int.reduceLE, Int.reduceEq, Int.reduceNeg, Int.reduceMul, Int.reduceSub, Nat.reduceSub, reduceIte, ite_true, ite_false, and_true, true_and, and_self, ro_1010_1]
theorem sp208_0 {d N L : Nat} {B : q_Bv} {G : q_Gi} (hd : 2 ≤ d) : Sp d 208 [.ref 1010] (hp N L B G) (some (vI 5)) (hp N L B G) := by
  refine e208 (by omega) ?_
  have h := sp212_0 (d := d - 1) (X := hp N L B G) (by omega)
  have e : ishr 5 0 = 5 := by decide
  have e2 : (((q_sh 1020).2 : Nat) : Int) = 5 := rfl
  simp (disch := first | omega | decide) only [s208_0, s208_1, m208_4, s208_5, s208_9, s208_10, Int.toNat_natCast, Int.toNat_natCast, Nat.reduceAdd, Nat.reduceMul, Int.reduceToNat, Int.reduceAdd, Int.reduceLT, Int.reduceLE, Int.reduceEq, Int.reduceNeg, Int.reduceMul, Int.reduceSub, Nat.reduceSub, reduceIte, ite_true, ite_false, and_true, true_and, and_self, ro_1010_0, e2, c208_6 (by rfl) h, e]
theorem ro_1011_0 : q_ro 1011 0 = .ref 1021 := rfl
theorem ro_1011_1 : q_ro 1011 1 = vI 0 := rfl
theorem sp212_1 {d : Nat} {X : q_H} (hd : 1 ≤ d) : Sp d 212 [.ref 1011] X (some (vI 0)) X := by
  refine e212 (by omega) ?_
  simp (disch := first | omega | decide) only [s212_0, s212_3, s212_3b, s212_6, s212_7, s212_10, s212_13, s212_14, Int.toNat_natCast, Int.toNat_natCast, Nat.reduceAdd, Nat.reduceMul, Int.reduceToNat, Int.reduceAdd, Int.reduceLT, Int.reduceLE, Int.reduceEq, Int.reduceNeg, Int.reduceMul, Int.reduceSub, Nat.reduceSub, reduceIte, ite_true, ite_false, and_true, true_and, and_self, ro_1011_1]
theorem sp213_1 {d : Nat} {X : q_H} (hd : 1 ≤ d) : Sp d 213 [.ref 1011] X (some (vI 1)) X := by
  refine e213 (by omega) ?_
  simp (disch := first | omega | decide) only [s213_0, s213_3, s213_3b, s213_6, s213_7, s213_10, s213_10b, s213_13, s213_14, s213_17, s213_18, s213_18b, Int.toNat_natCast, Int.toNat_natCast, Nat.reduceAdd, Nat.reduceMul, Int.reduceToNat, Int.reduceAdd, Int.reduceLT, Int.reduceLE, Int.reduceEq, Int.reduceNeg, Int.reduceMul, Int.reduceSub, Nat.reduceSub, reduceIte, ite_true, ite_false, and_true, true_and, and_self, ro_1011_1]
theorem sp208_1 {d N L : Nat} {B : q_Bv} {G : q_Gi} (hd : 2 ≤ d) : Sp d 208 [.ref 1011] (hp N L B G) (some (vI 5)) (hp N L B G) := by
  refine e208 (by omega) ?_
  have h := sp212_1 (d := d - 1) (X := hp N L B G) (by omega)
  have e : ishr 5 0 = 5 := by decide
  have e2 : (((q_sh 1021).2 : Nat) : Int) = 5 := rfl
  simp (disch := first | omega | decide) only [s208_0, s208_1, m208_4, s208_5, s208_9, s208_10, Int.toNat_natCast, Int.toNat_natCast, Nat.reduceAdd, Nat.reduceMul, Int.reduceToNat, Int.reduceAdd, Int.reduceLT, Int.reduceLE, Int.reduceEq, Int.reduceNeg, Int.reduceMul, Int.reduceSub, Nat.reduceSub, reduceIte, ite_true, ite_false, and_true, true_and, and_self, ro_1011_0, e2, c208_6 (by rfl) h, e]
theorem ro_1012_0 : q_ro 1012 0 = .ref 1022 := rfl
theorem ro_1012_1 : q_ro 1012 1 = vI 0 := rfl
theorem sp212_2 {d : Nat} {X : q_H} (hd : 1 ≤ d) : Sp d 212 [.ref 1012] X (some (vI 0)) X := by
  refine e212 (by omega) ?_
  simp (disch := first | omega | decide) only [s212_0, s212_3, s212_3b, s212_6, s212_7, s212_10, s212_13, s212_14, Int.toNat_natCast, Int.toNat_natCast, Nat.reduceAdd, Nat.reduceMul, Int.reduceToNat, Int.reduceAdd, Int.reduceLT, Int.reduceLE, Int.reduceEq, Int.reduceNeg, Int.reduceMul, Int.reduceSub, Nat.reduceSub, reduceIte, ite_true, ite_false, and_true, true_and, and_self, ro_1012_1]
theorem sp213_2 {d : Nat} {X : q_H} (hd : 1 ≤ d) : Sp d 213 [.ref 1012] X (some (vI 1)) X := by
  refine e213 (by omega) ?_
  simp (disch := first | omega | decide) only [s213_0, s213_3, s213_3b, s213_6, s213_7, s213_10, s213_10b, s213_13, s213_14, s213_17, s213_18, s213_18b, Int.toNat_natCast, Int.toNat_natCast, Nat.reduceAdd, Nat.reduceMul, Int.reduceToNat, Int.reduceAdd, Int.reduceLT, Int.reduceLE, Int.reduceEq, Int.reduceNeg, Int.reduceMul, Int.reduceSub, Nat.reduceSub, reduceIte, ite_true, ite_false, and_true, true_and, and_self, ro_1012_1]
theorem sp208_2 {d N L : Nat} {B : q_Bv} {G : q_Gi} (hd : 2 ≤ d) : Sp d 208 [.ref 1012] (hp N L B G) (some (vI 8)) (hp N L B G) := by
  refine e208 (by omega) ?_
  have h := sp212_2 (d := d - 1) (X := hp N L B G) (by omega)
  have e : ishr 8 0 = 8 := by decide
  have e2 : (((q_sh 1022).2 : Nat) : Int) = 8 := rfl
  simp (disch := first | omega | decide) only [s208_0, s208_1, m208_4, s208_5, s208_9, s208_10, Int.toNat_natCast, Int.toNat_natCast, Nat.reduceAdd, Nat.reduceMul, Int.reduceToNat, Int.reduceAdd, Int.reduceLT, Int.reduceLE, Int.reduceEq, Int.reduceNeg, Int.reduceMul, Int.reduceSub, Nat.reduceSub, reduceIte, ite_true, ite_false, and_true, true_and, and_self, ro_1012_0, e2, c208_6 (by rfl) h, e]
theorem ro_1013_0 : q_ro 1013 0 = .ref 1023 := rfl
theorem ro_1013_1 : q_ro 1013 1 = vI 0 := rfl
theorem sp212_3 {d : Nat} {X : q_H} (hd : 1 ≤ d) : Sp d 212 [.ref 1013] X (some (vI 0)) X := by
  refine e212 (by omega) ?_
  simp (disch := first | omega | decide) only [s212_0, s212_3, s212_3b, s212_6, s212_7, s212_10, s212_13, s212_14, Int.toNat_natCast, Int.toNat_natCast, Nat.reduceAdd, Nat.reduceMul, Int.reduceToNat, Int.reduceAdd, Int.reduceLT, Int.reduceLE, Int.reduceEq, Int.reduceNeg, Int.reduceMul, Int.reduceSub, Nat.reduceSub, reduceIte, ite_true, ite_false, and_true, true_and, and_self, ro_1013_1]
theorem sp213_3 {d : Nat} {X : q_H} (hd : 1 ≤ d) : Sp d 213 [.ref 1013] X (some (vI 1)) X := by
  refine e213 (by omega) ?_
  simp (disch := first | omega | decide) only [s213_0, s213_3, s213_3b, s213_6, s213_7, s213_10, s213_10b, s213_13, s213_14, s213_17, s213_18, s213_18b, Int.toNat_natCast, Int.toNat_natCast, Nat.reduceAdd, Nat.reduceMul, Int.reduceToNat, Int.reduceAdd, Int.reduceLT, Int.reduceLE, Int.reduceEq, Int.reduceNeg, Int.reduceMul, Int.reduceSub, Nat.reduceSub, reduceIte, ite_true, ite_false, and_true, true_and, and_self, ro_1013_1]
theorem sp208_3 {d N L : Nat} {B : q_Bv} {G : q_Gi} (hd : 2 ≤ d) : Sp d 208 [.ref 1013] (hp N L B G) (some (vI 6)) (hp N L B G) := by
  refine e208 (by omega) ?_
  have h := sp212_3 (d := d - 1) (X := hp N L B G) (by omega)
  have e : ishr 6 0 = 6 := by decide
  have e2 : (((q_sh 1023).2 : Nat) : Int) = 6 := rfl
  simp (disch := first | omega | decide) only [s208_0, s208_1, m208_4, s208_5, s208_9, s208_10, Int.toNat_natCast, Int.toNat_natCast, Nat.reduceAdd, Nat.reduceMul, Int.reduceToNat, Int.reduceAdd, Int.reduceLT, Int.reduceLE, Int.reduceEq, Int.reduceNeg, Int.reduceMul, Int.reduceSub, Nat.reduceSub, reduceIte, ite_true, ite_false, and_true, true_and, and_self, ro_1013_0, e2, c208_6 (by rfl) h, e]
theorem ro_1014_0 : q_ro 1014 0 = .ref 1024 := rfl
theorem ro_1014_1 : q_ro 1014 1 = vI 0 := rfl
theorem sp212_4 {d : Nat} {X : q_H} (hd : 1 ≤ d) : Sp d 212 [.ref 1014] X (some (vI 0)) X := by
  refine e212 (by omega) ?_
  simp (disch := first | omega | decide) only [s212_0, s212_3, s212_3b, s212_6, s212_7, s212_10, s212_13, s212_14, Int.toNat_natCast, Int.toNat_natCast, Nat.reduceAdd, Nat.reduceMul, Int.reduceToNat, Int.reduceAdd, Int.reduceLT, Int.reduceLE, Int.reduceEq, Int.reduceNeg, Int.reduceMul, Int.reduceSub, Nat.reduceSub, reduceIte, ite_true, ite_false, and_true, true_and, and_self, ro_1014_1]
theorem sp213_4 {d : Nat} {X : q_H} (hd : 1 ≤ d) : Sp d 213 [.ref 1014] X (some (vI 1)) X := by
  refine e213 (by omega) ?_
  simp (disch := first | omega | decide) only [s213_0, s213_3, s213_3b, s213_6, s213_7, s213_10, s213_10b, s213_13, s213_14, s213_17, s213_18, s213_18b, Int.toNat_natCast, Int.toNat_natCast, Nat.reduceAdd, Nat.reduceMul, Int.reduceToNat, Int.reduceAdd, Int.reduceLT, Int.reduceLE, Int.reduceEq, Int.reduceNeg, Int.reduceMul, Int.reduceSub, Nat.reduceSub, reduceIte, ite_true, ite_false, and_true, true_and, and_self, ro_1014_1]
theorem sp208_4 {d N L : Nat} {B : q_Bv} {G : q_Gi} (hd : 2 ≤ d) : Sp d 208 [.ref 1014] (hp N L B G) (some (vI 6)) (hp N L B G) := by
  refine e208 (by omega) ?_
  have h := sp212_4 (d := d - 1) (X := hp N L B G) (by omega)
  have e : ishr 6 0 = 6 := by decide
  have e2 : (((q_sh 1024).2 : Nat) : Int) = 6 := rfl
  simp (disch := first | omega | decide) only [s208_0, s208_1, m208_4, s208_5, s208_9, s208_10, Int.toNat_natCast, Int.toNat_natCast, Nat.reduceAdd, Nat.reduceMul, Int.reduceToNat, Int.reduceAdd, Int.reduceLT, Int.reduceLE, Int.reduceEq, Int.reduceNeg, Int.reduceMul, Int.reduceSub, Nat.reduceSub, reduceIte, ite_true, ite_false, and_true, true_and, and_self, ro_1014_0, e2, c208_6 (by rfl) h, e]
theorem ro_1015_0 : q_ro 1015 0 = .ref 1025 := rfl
theorem ro_1015_1 : q_ro 1015 1 = vI 0 := rfl
theorem sp212_5 {d : Nat} {X : q_H} (hd : 1 ≤ d) : Sp d 212 [.ref 1015] X (some (vI 0)) X := by
  refine e212 (by omega) ?_
  simp (disch := first | omega | decide) only [s212_0, s212_3, s212_3b, s212_6, s212_7, s212_10, s212_13, s212_14, Int.toNat_natCast, Int.toNat_natCast, Nat.reduceAdd, Nat.reduceMul, Int.reduceToNat, Int.reduceAdd, Int.reduceLT, Int.reduceLE, Int.reduceEq, Int.reduceNeg, Int.reduceMul, Int.reduceSub, Nat.reduceSub, reduceIte, ite_true, ite_false, and_true, true_and, and_self, ro_1015_1]
theorem sp213_5 {d : Nat} {X : q_H} (hd : 1 ≤ d) : Sp d 213 [.ref 1015] X (some (vI 1)) X := by
  refine e213 (by omega) ?_
  simp (disch := first | omega | decide) only [s213_0, s213_3, s213_3b, s213_6, s213_7, s213_10, s213_10b, s213_13, s213_14, s213_17, s213_18, s213_18b, Int.toNat_natCast, Int.toNat_natCast, Nat.reduceAdd, Nat.reduceMul, Int.reduceToNat, Int.reduceAdd, Int.reduceLT, Int.reduceLE, Int.reduceEq, Int.reduceNeg, Int.reduceMul, Int.reduceSub, Nat.reduceSub, reduceIte, ite_true, ite_false, and_true, true_and, and_self, ro_1015_1]
theorem sp208_5 {d N L : Nat} {B : q_Bv} {G : q_Gi} (hd : 2 ≤ d) : Sp d 208 [.ref 1015] (hp N L B G) (some (vI 3)) (hp N L B G) := by
  refine e208 (by omega) ?_
  have h := sp212_5 (d := d - 1) (X := hp N L B G) (by omega)
  have e : ishr 3 0 = 3 := by decide
  have e2 : (((q_sh 1025).2 : Nat) : Int) = 3 := rfl
  simp (disch := first | omega | decide) only [s208_0, s208_1, m208_4, s208_5, s208_9, s208_10, Int.toNat_natCast, Int.toNat_natCast, Nat.reduceAdd, Nat.reduceMul, Int.reduceToNat, Int.reduceAdd, Int.reduceLT, Int.reduceLE, Int.reduceEq, Int.reduceNeg, Int.reduceMul, Int.reduceSub, Nat.reduceSub, reduceIte, ite_true, ite_false, and_true, true_and, and_self, ro_1015_0, e2, c208_6 (by rfl) h, e]
theorem sp221 {d : Nat} {i m : Int} {X : q_H} (hd : 1 ≤ d) (hi : 0 ≤ i ∧ i < m) (hm : m ≤ 1000) : Sp d 221 [vI i, vI m, .ref 1004] X (some (vI i)) X := by
  refine e221 (by omega) ?_
  have h1 : ¬ i < 0 := by omega
  have h2 : i < m := hi.2
  simp (disch := omega) only [s221_0, s221_1, s221_4, s221_5, s221_6, s221_10, s221_11, s221_16, s221_17, Int.toNat_natCast, Int.toNat_natCast, Nat.reduceAdd, Nat.reduceMul, Int.reduceToNat, Int.reduceAdd, Int.reduceLT, Int.reduceLE, Int.reduceEq, Int.reduceNeg, Int.reduceMul, Int.reduceSub, Nat.reduceSub, reduceIte, ite_true, ite_false, and_true, true_and, and_self, h1, h2]
theorem sp214 {d : Nat} {i m : Int} {X : q_H} (hd : 2 ≤ d) (hi : 0 ≤ i ∧ i < m) (hm : m ≤ 1000) : Sp d 214 [vI i, vI m] X none X := by
  have h := sp221 (d := d - 1) (X := X) (by omega) hi hm
  refine e214 (by omega) ?_
  simp (disch := omega) only [s214_0, s214_1, s214_2, s214_8, s214_9, Int.toNat_natCast, Int.toNat_natCast, Nat.reduceAdd, Nat.reduceMul, Int.reduceToNat, Int.reduceAdd, Int.reduceLT, Int.reduceLE, Int.reduceEq, Int.reduceNeg, Int.reduceMul, Int.reduceSub, Nat.reduceSub, reduceIte, ite_true, ite_false, and_true, true_and, and_self, c214_5 h]
theorem ch_ok : ∀ c : Nat, c < 128 → i2c (iand (c : Int) 255) = (c : Int) := by decide
theorem sp209_0 {d i N L : Nat} {c : Nat} {B : q_Bv} {G : q_Gi} (hd : 5 ≤ d) (hi : i < 5) (hc : c < 128) (e : q_ro 1020 i = vI c) : Sp d 209 [.ref 1010, vI i] (hp N L B G) (some (vI c)) (hp N L B G) := by
  have h213 := sp213_0 (d := d - 1) (X := hp N L B G) (by omega)
  have e2 : (((q_sh 1020).2 : Nat) : Int) = 5 := rfl
  have h214 := sp214 (d := d - 1 - 1) (i := (i : Int)) (m := 5) (X := hp N L B G) (by omega) (by omega) (by omega)
  have ec := ch_ok c hc
  have h215 : Sp (d - 1) 215 [.ref 1020, vI i] (hp N L B G) (some (vI c)) (hp N L B G) := by
    refine e215 (by omega) ?_
    have hj : 0 ≤ (i : Int) ∧ (i : Int) < (((q_sh 1020).2 : Nat) : Int) := by rw [e2]; omega
    simp (disch := first | omega | decide | assumption) only [s215_0, s215_1, m215_2, s215_6, s215_7, s215_8, s215_9, s215_12, s215_13, s215_14, Int.toNat_natCast, Int.toNat_natCast, Nat.reduceAdd, Nat.reduceMul, Int.reduceToNat, Int.reduceAdd, Int.reduceLT, Int.reduceLE, Int.reduceEq, Int.reduceNeg, Int.reduceMul, Int.reduceSub, Nat.reduceSub, reduceIte, ite_true, ite_false, and_true, true_and, and_self, e2, c215_3 h214, e, ec]
  refine e209 (by omega) ?_
  simp (disch := first | omega | decide) only [s209_0, s209_4, s209_4b, s209_7, s209_8, s209_11, s209_15, s209_16, s209_17, s209_20, Int.toNat_natCast, Int.toNat_natCast, Nat.reduceAdd, Nat.reduceMul, Int.reduceToNat, Int.reduceAdd, Int.reduceLT, Int.reduceLE, Int.reduceEq, Int.reduceNeg, Int.reduceMul, Int.reduceSub, Nat.reduceSub, reduceIte, ite_true, ite_false, and_true, true_and, and_self, c209_1 (by rfl) h213, ro_1010_0, c209_12 (by rfl) h215]
theorem sp209_1 {d i N L : Nat} {c : Nat} {B : q_Bv} {G : q_Gi} (hd : 5 ≤ d) (hi : i < 5) (hc : c < 128) (e : q_ro 1021 i = vI c) : Sp d 209 [.ref 1011, vI i] (hp N L B G) (some (vI c)) (hp N L B G) := by
  have h213 := sp213_1 (d := d - 1) (X := hp N L B G) (by omega)
  have e2 : (((q_sh 1021).2 : Nat) : Int) = 5 := rfl
  have h214 := sp214 (d := d - 1 - 1) (i := (i : Int)) (m := 5) (X := hp N L B G) (by omega) (by omega) (by omega)
  have ec := ch_ok c hc
  have h215 : Sp (d - 1) 215 [.ref 1021, vI i] (hp N L B G) (some (vI c)) (hp N L B G) := by
    refine e215 (by omega) ?_
    have hj : 0 ≤ (i : Int) ∧ (i : Int) < (((q_sh 1021).2 : Nat) : Int) := by rw [e2]; omega
    simp (disch := first | omega | decide | assumption) only [s215_0, s215_1, m215_2, s215_6, s215_7, s215_8, s215_9, s215_12, s215_13, s215_14, Int.toNat_natCast, Int.toNat_natCast, Nat.reduceAdd, Nat.reduceMul, Int.reduceToNat, Int.reduceAdd, Int.reduceLT, Int.reduceLE, Int.reduceEq, Int.reduceNeg, Int.reduceMul, Int.reduceSub, Nat.reduceSub, reduceIte, ite_true, ite_false, and_true, true_and, and_self, e2, c215_3 h214, e, ec]
  refine e209 (by omega) ?_
  simp (disch := first | omega | decide) only [s209_0, s209_4, s209_4b, s209_7, s209_8, s209_11, s209_15, s209_16, s209_17, s209_20, Int.toNat_natCast, Int.toNat_natCast, Nat.reduceAdd, Nat.reduceMul, Int.reduceToNat, Int.reduceAdd, Int.reduceLT, Int.reduceLE, Int.reduceEq, Int.reduceNeg, Int.reduceMul, Int.reduceSub, Nat.reduceSub, reduceIte, ite_true, ite_false, and_true, true_and, and_self, c209_1 (by rfl) h213, ro_1011_0, c209_12 (by rfl) h215]
theorem sp209_2 {d i N L : Nat} {c : Nat} {B : q_Bv} {G : q_Gi} (hd : 5 ≤ d) (hi : i < 8) (hc : c < 128) (e : q_ro 1022 i = vI c) : Sp d 209 [.ref 1012, vI i] (hp N L B G) (some (vI c)) (hp N L B G) := by
  have h213 := sp213_2 (d := d - 1) (X := hp N L B G) (by omega)
  have e2 : (((q_sh 1022).2 : Nat) : Int) = 8 := rfl
  have h214 := sp214 (d := d - 1 - 1) (i := (i : Int)) (m := 8) (X := hp N L B G) (by omega) (by omega) (by omega)
  have ec := ch_ok c hc
  have h215 : Sp (d - 1) 215 [.ref 1022, vI i] (hp N L B G) (some (vI c)) (hp N L B G) := by
    refine e215 (by omega) ?_
    have hj : 0 ≤ (i : Int) ∧ (i : Int) < (((q_sh 1022).2 : Nat) : Int) := by rw [e2]; omega
    simp (disch := first | omega | decide | assumption) only [s215_0, s215_1, m215_2, s215_6, s215_7, s215_8, s215_9, s215_12, s215_13, s215_14, Int.toNat_natCast, Int.toNat_natCast, Nat.reduceAdd, Nat.reduceMul, Int.reduceToNat, Int.reduceAdd, Int.reduceLT, Int.reduceLE, Int.reduceEq, Int.reduceNeg, Int.reduceMul, Int.reduceSub, Nat.reduceSub, reduceIte, ite_true, ite_false, and_true, true_and, and_self, e2, c215_3 h214, e, ec]
  refine e209 (by omega) ?_
  simp (disch := first | omega | decide) only [s209_0, s209_4, s209_4b, s209_7, s209_8, s209_11, s209_15, s209_16, s209_17, s209_20, Int.toNat_natCast, Int.toNat_natCast, Nat.reduceAdd, Nat.reduceMul, Int.reduceToNat, Int.reduceAdd, Int.reduceLT, Int.reduceLE, Int.reduceEq, Int.reduceNeg, Int.reduceMul, Int.reduceSub, Nat.reduceSub, reduceIte, ite_true, ite_false, and_true, true_and, and_self, c209_1 (by rfl) h213, ro_1012_0, c209_12 (by rfl) h215]
theorem sp209_3 {d i N L : Nat} {c : Nat} {B : q_Bv} {G : q_Gi} (hd : 5 ≤ d) (hi : i < 6) (hc : c < 128) (e : q_ro 1023 i = vI c) : Sp d 209 [.ref 1013, vI i] (hp N L B G) (some (vI c)) (hp N L B G) := by
  have h213 := sp213_3 (d := d - 1) (X := hp N L B G) (by omega)
  have e2 : (((q_sh 1023).2 : Nat) : Int) = 6 := rfl
  have h214 := sp214 (d := d - 1 - 1) (i := (i : Int)) (m := 6) (X := hp N L B G) (by omega) (by omega) (by omega)
  have ec := ch_ok c hc
  have h215 : Sp (d - 1) 215 [.ref 1023, vI i] (hp N L B G) (some (vI c)) (hp N L B G) := by
    refine e215 (by omega) ?_
    have hj : 0 ≤ (i : Int) ∧ (i : Int) < (((q_sh 1023).2 : Nat) : Int) := by rw [e2]; omega
    simp (disch := first | omega | decide | assumption) only [s215_0, s215_1, m215_2, s215_6, s215_7, s215_8, s215_9, s215_12, s215_13, s215_14, Int.toNat_natCast, Int.toNat_natCast, Nat.reduceAdd, Nat.reduceMul, Int.reduceToNat, Int.reduceAdd, Int.reduceLT, Int.reduceLE, Int.reduceEq, Int.reduceNeg, Int.reduceMul, Int.reduceSub, Nat.reduceSub, reduceIte, ite_true, ite_false, and_true, true_and, and_self, e2, c215_3 h214, e, ec]
  refine e209 (by omega) ?_
  simp (disch := first | omega | decide) only [s209_0, s209_4, s209_4b, s209_7, s209_8, s209_11, s209_15, s209_16, s209_17, s209_20, Int.toNat_natCast, Int.toNat_natCast, Nat.reduceAdd, Nat.reduceMul, Int.reduceToNat, Int.reduceAdd, Int.reduceLT, Int.reduceLE, Int.reduceEq, Int.reduceNeg, Int.reduceMul, Int.reduceSub, Nat.reduceSub, reduceIte, ite_true, ite_false, and_true, true_and, and_self, c209_1 (by rfl) h213, ro_1013_0, c209_12 (by rfl) h215]
theorem sp216 {d : Nat} {c : Int} {X : q_H} (hd : 1 ≤ d) (hc : 0 ≤ c ∧ c ≤ 127) : Sp d 216 [vI c] X (some (vI 1)) X := by
  have h1 : ¬ c < 0 := by omega
  have h2 : ¬ 255 < c := by omega
  have h3 : c ≤ 255 := by omega
  refine e216 (by omega) ?_
  simp (disch := omega) only [s216_0, s216_1, s216_4, s216_5, s216_8, s216_11, s216_12, s216_15, s216_16, s216_16b, Int.toNat_natCast, Int.toNat_natCast, Nat.reduceAdd, Nat.reduceMul, Int.reduceToNat, Int.reduceAdd, Int.reduceLT, Int.reduceLE, Int.reduceEq, Int.reduceNeg, Int.reduceMul, Int.reduceSub, Nat.reduceSub, reduceIte, ite_true, ite_false, and_true, true_and, and_self, h1, h2, h3]
theorem cb_ok : ∀ c : Nat, c < 128 → i2b (c : Int) = (c : Int) ∧ i2c (c : Int) = (c : Int) := by decide
theorem cb_o {c : Int} (h : 0 ≤ c ∧ c ≤ 127) : i2b c = c ∧ i2c c = c := by
  obtain ⟨k, rfl⟩ : ∃ k : Nat, c = (k : Int) := ⟨c.toNat, by omega⟩
  exact cb_ok k (by omega)
theorem sp218_4 {d N L : Nat} {c : Int} {B : q_Bv} {G : q_Gi} (hd : 1 ≤ d) (hc : 0 ≤ c ∧ c ≤ 127) : Sp d 218 [.ref 1024, vI c, vI 0, vI 6] (hp N L B G) (some (vI (liS c))) (hp N L B G) := by
  have e2 : (((q_sh 1024).2 : Nat) : Int) = 6 := rfl
  have r0 : q_ro 1024 0 = vI 98 := rfl
  have r1 : q_ro 1024 1 = vI 102 := rfl
  have r2 : q_ro 1024 2 = vI 107 := rfl
  have r3 : q_ro 1024 3 = vI 118 := rfl
  have r4 : q_ro 1024 4 = vI 104 := rfl
  have r5 : q_ro 1024 5 = vI 100 := rfl
  have eb := (cb_o hc).1
  refine e218 (by omega) ?_
  have hk : c = 98 ∨ c = 102 ∨ c = 107 ∨ c = 118 ∨ c = 104 ∨ c = 100 ∨ (¬ (98 = c) ∧ ¬ (102 = c) ∧ ¬ (107 = c) ∧ ¬ (118 = c) ∧ ¬ (104 = c) ∧ ¬ (100 = c)) := by omega
  rcases hk with rfl | rfl | rfl | rfl | rfl | rfl | ⟨n0, n1, n2, n3, n4, n5⟩
  all_goals try (simp (disch := first | omega | decide) only [s218_0, s218_1, s218_2, s218_4, s218_5, s218_7, s218_9, s218_10, s218_13, s218_14, s218_16, s218_17, s218_19, s218_19b, s218_22, s218_24, s218_25, s218_28, s218_31, s218_32, Int.toNat_natCast, Int.toNat_natCast, Nat.reduceAdd, Nat.reduceMul, Int.reduceToNat, Int.reduceAdd, Int.reduceLT, Int.reduceLE, Int.reduceEq, Int.reduceNeg, Int.reduceMul, Int.reduceSub, Nat.reduceSub, reduceIte, ite_true, ite_false, and_true, true_and, and_self, e2, r0, r1, r2, r3, r4, r5, eb]; rfl)
  have n0' : ¬ c = 98 := by omega
  have n1' : ¬ c = 102 := by omega
  have n2' : ¬ c = 107 := by omega
  have n3' : ¬ c = 118 := by omega
  have n4' : ¬ c = 104 := by omega
  have n5' : ¬ c = 100 := by omega
  simp (disch := first | omega | decide) only [s218_0, s218_1, s218_2, s218_4, s218_5, s218_7, s218_9, s218_10, s218_13, s218_14, s218_16, s218_17, s218_19, s218_19b, s218_22, s218_24, s218_25, s218_28, s218_31, s218_32, Int.toNat_natCast, Int.toNat_natCast, Nat.reduceAdd, Nat.reduceMul, Int.reduceToNat, Int.reduceAdd, Int.reduceLT, Int.reduceLE, Int.reduceEq, Int.reduceNeg, Int.reduceMul, Int.reduceSub, Nat.reduceSub, reduceIte, ite_true, ite_false, and_true, true_and, and_self, e2, r0, r1, r2, r3, r4, r5, eb, n0, n1, n2, n3, n4, n5, liS, n0', n1', n2', n3', n4', n5']
theorem sp218_5 {d N L : Nat} {c : Int} {B : q_Bv} {G : q_Gi} (hd : 1 ≤ d) (hc : 0 ≤ c ∧ c ≤ 127) : Sp d 218 [.ref 1025, vI c, vI 0, vI 3] (hp N L B G) (some (vI (siS c))) (hp N L B G) := by
  have e2 : (((q_sh 1025).2 : Nat) : Int) = 3 := rfl
  have r0 : q_ro 1025 0 = vI 60 := rfl
  have r1 : q_ro 1025 1 = vI 61 := rfl
  have r2 : q_ro 1025 2 = vI 62 := rfl
  have eb := (cb_o hc).1
  refine e218 (by omega) ?_
  have hk : c = 60 ∨ c = 61 ∨ c = 62 ∨ (¬ (60 = c) ∧ ¬ (61 = c) ∧ ¬ (62 = c)) := by omega
  rcases hk with rfl | rfl | rfl | ⟨n0, n1, n2⟩
  all_goals try (simp (disch := first | omega | decide) only [s218_0, s218_1, s218_2, s218_4, s218_5, s218_7, s218_9, s218_10, s218_13, s218_14, s218_16, s218_17, s218_19, s218_19b, s218_22, s218_24, s218_25, s218_28, s218_31, s218_32, Int.toNat_natCast, Int.toNat_natCast, Nat.reduceAdd, Nat.reduceMul, Int.reduceToNat, Int.reduceAdd, Int.reduceLT, Int.reduceLE, Int.reduceEq, Int.reduceNeg, Int.reduceMul, Int.reduceSub, Nat.reduceSub, reduceIte, ite_true, ite_false, and_true, true_and, and_self, e2, r0, r1, r2, eb]; rfl)
  have n0' : ¬ c = 60 := by omega
  have n1' : ¬ c = 61 := by omega
  have n2' : ¬ c = 62 := by omega
  simp (disch := first | omega | decide) only [s218_0, s218_1, s218_2, s218_4, s218_5, s218_7, s218_9, s218_10, s218_13, s218_14, s218_16, s218_17, s218_19, s218_19b, s218_22, s218_24, s218_25, s218_28, s218_31, s218_32, Int.toNat_natCast, Int.toNat_natCast, Nat.reduceAdd, Nat.reduceMul, Int.reduceToNat, Int.reduceAdd, Int.reduceLT, Int.reduceLE, Int.reduceEq, Int.reduceNeg, Int.reduceMul, Int.reduceSub, Nat.reduceSub, reduceIte, ite_true, ite_false, and_true, true_and, and_self, e2, r0, r1, r2, eb, n0, n1, n2, siS, n0', n1', n2']
theorem sp210_4 {d N L : Nat} {c : Int} {B : q_Bv} {G : q_Gi} (hd : 6 ≤ d) (hc : 0 ≤ c ∧ c ≤ 127) : Sp d 210 [.ref 1014, vI c] (hp N L B G) (some (vI (liS c))) (hp N L B G) := by
  have h213 := sp213_4 (d := d - 1 - 1) (X := hp N L B G) (by omega)
  have h208 := sp208_4 (d := d - 1 - 1) (N := N) (L := L) (B := B) (G := G) (by omega)
  have e2 : (((q_sh 1024).2 : Nat) : Int) = 6 := rfl
  have h216 := sp216 (d := d - 1 - 1 - 1) (X := hp N L B G) (by omega) hc
  have h218 := sp218_4 (d := d - 1 - 1 - 1) (N := N) (L := L) (B := B) (G := G) (by omega) hc
  have em : max (0 : Int) 0 = 0 := rfl
  have en : min 6 6 = (6 : Int) := rfl
  have h217 : Sp (d - 1 - 1) 217 [.ref 1024, vI c, vI 0, vI 6] (hp N L B G) (some (vI (liS c))) (hp N L B G) := by
    refine e217 (by omega) ?_
    simp (disch := first | omega | decide) only [s217_0, s217_4, s217_4b, s217_7, s217_8, s217_9, s217_10, s217_11, s217_14, s217_15, s217_16, m217_17, s217_18, s217_21, s217_22, s217_23, s217_24, s217_27, s217_28, s217_29, s217_30, s217_31, s217_32, s217_36, Int.toNat_natCast, Int.toNat_natCast, Nat.reduceAdd, Nat.reduceMul, Int.reduceToNat, Int.reduceAdd, Int.reduceLT, Int.reduceLE, Int.reduceEq, Int.reduceNeg, Int.reduceMul, Int.reduceSub, Nat.reduceSub, reduceIte, ite_true, ite_false, and_true, true_and, and_self, c217_1 h216, e2, em, en, c217_33 (by rfl) h218]
  have h211 : Sp (d - 1) 211 [.ref 1014, vI c, vI 0] (hp N L B G) (some (vI (liS c))) (hp N L B G) := by
    refine e211 (by omega) ?_
    simp (disch := first | omega | decide) only [s211_0, s211_4, s211_4b, s211_7, s211_8, s211_11, s211_12, s211_13, s211_20, s211_23, s211_24, s211_27, s211_28, s211_29, s211_36, Int.toNat_natCast, Int.toNat_natCast, Nat.reduceAdd, Nat.reduceMul, Int.reduceToNat, Int.reduceAdd, Int.reduceLT, Int.reduceLE, Int.reduceEq, Int.reduceNeg, Int.reduceMul, Int.reduceSub, Nat.reduceSub, reduceIte, ite_true, ite_false, and_true, true_and, and_self, c211_1 (by rfl) h213, ro_1014_0, c211_14 (by rfl) h208, c211_17 (by rfl) h217]
  refine e210 (by omega) ?_
  simp (disch := first | omega | decide) only [s210_0, s210_1, s210_2, s210_6, Int.toNat_natCast, Int.toNat_natCast, Nat.reduceAdd, Nat.reduceMul, Int.reduceToNat, Int.reduceAdd, Int.reduceLT, Int.reduceLE, Int.reduceEq, Int.reduceNeg, Int.reduceMul, Int.reduceSub, Nat.reduceSub, reduceIte, ite_true, ite_false, and_true, true_and, and_self, c210_3 (by rfl) h211]
/-- one of the signs of the string -/
theorem sp31_4 {d n p N L : Nat} {B : q_Bv} {G : q_Gi} (hd : 7 ≤ d) (h : rdr G n) (hpn : p ≤ n) : Sp d 31 [.ref 56, .ref 1014] (hp N L B (ug G 56 2 p)) (some (vI (liS (nxG G n p)))) (hp N L B (ug G 56 2 ((if liS (nxG G n p) < 0 then p else p + 1 : Nat) : Int))) := by
  have hr := nxG_r h p
  have hn := h.2.1
  unfold nxG at hr ⊢
  by_cases l : p < n
  · rw [if_pos l] at hr ⊢
    have l2 : (p : Int) < (n : Int) := by omega
    have h3 := h.2.2 p l
    have ec := (cb_o h3).2
    have h210 := sp210_4 (d := d - 1) (N := N) (L := L) (B := B) (G := ug G 56 2 p) (by omega) h3
    have hlr := liS_r (c := G 57 p)
    refine e31 (by omega) ?_
    by_cases c0 : liS (G 57 p) < 0
    · rw [if_pos c0]
      simp (disch := first | omega | decide) only [s31_0, m31_1, s31_4, m31_5, s31_8, s31_11, s31_12, m31_13, s31_16, m31_17, m31_20, s31_21, s31_25, s31_28, s31_29, s31_30, s31_31, m31_32, s31_35, s31_36, s31_39, s31_40, s31_43, s31_44, m31_45, s31_48, s31_49, Int.toNat_natCast, Int.toNat_natCast, Nat.reduceAdd, Nat.reduceMul, Int.reduceToNat, Int.reduceAdd, Int.reduceLT, Int.reduceLE, Int.reduceEq, Int.reduceNeg, Int.reduceMul, Int.reduceSub, Nat.reduceSub, reduceIte, ite_true, ite_false, and_true, true_and, and_self, ug_at, ug_k, ug_ne, ug_ug, h.1, l2, ec, c31_22 (by rfl) h210, c0, Int.add_zero]
    · rw [if_neg c0]
      simp (disch := first | omega | decide) only [s31_0, m31_1, s31_4, m31_5, s31_8, s31_11, s31_12, m31_13, s31_16, m31_17, m31_20, s31_21, s31_25, s31_28, s31_29, s31_30, s31_31, m31_32, s31_35, s31_36, s31_39, s31_40, s31_43, s31_44, m31_45, s31_48, s31_49, Int.toNat_natCast, Int.toNat_natCast, Nat.reduceAdd, Nat.reduceMul, Int.reduceToNat, Int.reduceAdd, Int.reduceLT, Int.reduceLE, Int.reduceEq, Int.reduceNeg, Int.reduceMul, Int.reduceSub, Nat.reduceSub, reduceIte, ite_true, ite_false, and_true, true_and, and_self, ug_at, ug_k, ug_ne, ug_ug, h.1, l2, ec, c31_22 (by rfl) h210, c0]
      rfl
  · rw [if_neg l]
    have l2 : ¬ (p : Int) < (n : Int) := by omega
    have e0 : liS (-1) = -1 := rfl
    rw [e0, if_pos (by decide)]
    refine e31 (by omega) ?_
    simp (disch := first | omega | decide) only [s31_0, m31_1, s31_4, m31_5, s31_8, s31_11, s31_12, m31_13, s31_16, m31_17, m31_20, s31_21, s31_25, s31_28, s31_29, s31_30, s31_31, m31_32, s31_35, s31_36, s31_39, s31_40, s31_43, s31_44, m31_45, s31_48, s31_49, Int.toNat_natCast, Int.toNat_natCast, Nat.reduceAdd, Nat.reduceMul, Int.reduceToNat, Int.reduceAdd, Int.reduceLT, Int.reduceLE, Int.reduceEq, Int.reduceNeg, Int.reduceMul, Int.reduceSub, Nat.reduceSub, reduceIte, ite_true, ite_false, and_true, true_and, and_self, ug_at, ug_k, ug_ne, ug_ug, h.1, l2, Int.add_zero]
theorem sp210_5 {d N L : Nat} {c : Int} {B : q_Bv} {G : q_Gi} (hd : 6 ≤ d) (hc : 0 ≤ c ∧ c ≤ 127) : Sp d 210 [.ref 1015, vI c] (hp N L B G) (some (vI (siS c))) (hp N L B G) := by
  have h213 := sp213_5 (d := d - 1 - 1) (X := hp N L B G) (by omega)
  have h208 := sp208_5 (d := d - 1 - 1) (N := N) (L := L) (B := B) (G := G) (by omega)
  have e2 : (((q_sh 1025).2 : Nat) : Int) = 3 := rfl
  have h216 := sp216 (d := d - 1 - 1 - 1) (X := hp N L B G) (by omega) hc
  have h218 := sp218_5 (d := d - 1 - 1 - 1) (N := N) (L := L) (B := B) (G := G) (by omega) hc
  have em : max (0 : Int) 0 = 0 := rfl
  have en : min 3 3 = (3 : Int) := rfl
  have h217 : Sp (d - 1 - 1) 217 [.ref 1025, vI c, vI 0, vI 3] (hp N L B G) (some (vI (siS c))) (hp N L B G) := by
    refine e217 (by omega) ?_
    simp (disch := first | omega | decide) only [s217_0, s217_4, s217_4b, s217_7, s217_8, s217_9, s217_10, s217_11, s217_14, s217_15, s217_16, m217_17, s217_18, s217_21, s217_22, s217_23, s217_24, s217_27, s217_28, s217_29, s217_30, s217_31, s217_32, s217_36, Int.toNat_natCast, Int.toNat_natCast, Nat.reduceAdd, Nat.reduceMul, Int.reduceToNat, Int.reduceAdd, Int.reduceLT, Int.reduceLE, Int.reduceEq, Int.reduceNeg, Int.reduceMul, Int.reduceSub, Nat.reduceSub, reduceIte, ite_true, ite_false, and_true, true_and, and_self, c217_1 h216, e2, em, en, c217_33 (by rfl) h218]
  have h211 : Sp (d - 1) 211 [.ref 1015, vI c, vI 0] (hp N L B G) (some (vI (siS c))) (hp N L B G) := by
    refine e211 (by omega) ?_
    simp (disch := first | omega | decide) only [s211_0, s211_4, s211_4b, s211_7, s211_8, s211_11, s211_12, s211_13, s211_20, s211_23, s211_24, s211_27, s211_28, s211_29, s211_36, Int.toNat_natCast, Int.toNat_natCast, Nat.reduceAdd, Nat.reduceMul, Int.reduceToNat, Int.reduceAdd, Int.reduceLT, Int.reduceLE, Int.reduceEq, Int.reduceNeg, Int.reduceMul, Int.reduceSub, Nat.reduceSub, reduceIte, ite_true, ite_false, and_true, true_and, and_self, c211_1 (by rfl) h213, ro_1015_0, c211_14 (by rfl) h208, c211_17 (by rfl) h217]
  refine e210 (by omega) ?_
  simp (disch := first | omega | decide) only [s210_0, s210_1, s210_2, s210_6, Int.toNat_natCast, Int.toNat_natCast, Nat.reduceAdd, Nat.reduceMul, Int.reduceToNat, Int.reduceAdd, Int.reduceLT, Int.reduceLE, Int.reduceEq, Int.reduceNeg, Int.reduceMul, Int.reduceSub, Nat.reduceSub, reduceIte, ite_true, ite_false, and_true, true_and, and_self, c210_3 (by rfl) h211]
/-- one of the signs of the string -/
theorem sp31_5 {d n p N L : Nat} {B : q_Bv} {G : q_Gi} (hd : 7 ≤ d) (h : rdr G n) (hpn : p ≤ n) : Sp d 31 [.ref 56, .ref 1015] (hp N L B (ug G 56 2 p)) (some (vI (siS (nxG G n p)))) (hp N L B (ug G 56 2 ((if siS (nxG G n p) < 0 then p else p + 1 : Nat) : Int))) := by
  have hr := nxG_r h p
  have hn := h.2.1
  unfold nxG at hr ⊢
  by_cases l : p < n
  · rw [if_pos l] at hr ⊢
    have l2 : (p : Int) < (n : Int) := by omega
    have h3 := h.2.2 p l
    have ec := (cb_o h3).2
    have h210 := sp210_5 (d := d - 1) (N := N) (L := L) (B := B) (G := ug G 56 2 p) (by omega) h3
    have hlr := siS_r (c := G 57 p)
    refine e31 (by omega) ?_
    by_cases c0 : siS (G 57 p) < 0
    · rw [if_pos c0]
      simp (disch := first | omega | decide) only [s31_0, m31_1, s31_4, m31_5, s31_8, s31_11, s31_12, m31_13, s31_16, m31_17, m31_20, s31_21, s31_25, s31_28, s31_29, s31_30, s31_31, m31_32, s31_35, s31_36, s31_39, s31_40, s31_43, s31_44, m31_45, s31_48, s31_49, Int.toNat_natCast, Int.toNat_natCast, Nat.reduceAdd, Nat.reduceMul, Int.reduceToNat, Int.reduceAdd, Int.reduceLT, Int.reduceLE, Int.reduceEq, Int.reduceNeg, Int.reduceMul, Int.reduceSub, Nat.reduceSub, reduceIte, ite_true, ite_false, and_true, true_and, and_self, ug_at, ug_k, ug_ne, ug_ug, h.1, l2, ec, c31_22 (by rfl) h210, c0, Int.add_zero]
    · rw [if_neg c0]
      simp (disch := first | omega | decide) only [s31_0, m31_1, s31_4, m31_5, s31_8, s31_11, s31_12, m31_13, s31_16, m31_17, m31_20, s31_21, s31_25, s31_28, s31_29, s31_30, s31_31, m31_32, s31_35, s31_36, s31_39, s31_40, s31_43, s31_44, m31_45, s31_48, s31_49, Int.toNat_natCast, Int.toNat_natCast, Nat.reduceAdd, Nat.reduceMul, Int.reduceToNat, Int.reduceAdd, Int.reduceLT, Int.reduceLE, Int.reduceEq, Int.reduceNeg, Int.reduceMul, Int.reduceSub, Nat.reduceSub, reduceIte, ite_true, ite_false, and_true, true_and, and_self, ug_at, ug_k, ug_ne, ug_ug, h.1, l2, ec, c31_22 (by rfl) h210, c0]
      rfl
  · rw [if_neg l]
    have l2 : ¬ (p : Int) < (n : Int) := by omega
    have e0 : siS (-1) = -1 := rfl
    rw [e0, if_pos (by decide)]
    refine e31 (by omega) ?_
    simp (disch := first | omega | decide) only [s31_0, m31_1, s31_4, m31_5, s31_8, s31_11, s31_12, m31_13, s31_16, m31_17, m31_20, s31_21, s31_25, s31_28, s31_29, s31_30, s31_31, m31_32, s31_35, s31_36, s31_39, s31_40, s31_43, s31_44, m31_45, s31_48, s31_49, Int.toNat_natCast, Int.toNat_natCast, Nat.reduceAdd, Nat.reduceMul, Int.reduceToNat, Int.reduceAdd, Int.reduceLT, Int.reduceLE, Int.reduceEq, Int.reduceNeg, Int.reduceMul, Int.reduceSub, Nat.reduceSub, reduceIte, ite_true, ite_false, and_true, true_and, and_self, ug_at, ug_k, ug_ne, ug_ug, h.1, l2, Int.add_zero]
