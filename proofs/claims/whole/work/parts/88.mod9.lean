/-! the model: good, gone, dear, towers, odds, mean -/
theorem lp173 {d n N L : Nat} {the w : Int} {rc : List (Int × Int × List Int)} {B : q_Bv} {P G0 : q_Gi} (hd : 6 ≤ d) (hP : Pok P) (hp0 : mpv G0 P) (hn : P 0 0 = (n : Int)) {Q : Option Value → q_H → Prop} : ∀ (m k : Nat) (many fails : Int) (G H : q_Gi) (x : Value), k + m = n → ms G H the rc → mf G0 G → 0 ≤ many ∧ many ≤ (k : Int) → (fails = -5 ∨ 0 ≤ fails ∧ fails ≤ 10) → nL x = true → (∀ (G' H' : q_Gi) (y : Int) (x : Value), mv G' H' → sameK H' H → mf G0 G' → nL x = true → WP d 173 81 [.ref 82, vI w, vI (goodS (lsR 2 rc 9) (P 1) m k H many fails).1, vI (goodS (lsR 2 rc 9) (P 1) m k H many fails).2, vI y, x] [] (hp N L B G') Q) → WP d 173 24 [.ref 82, vI w, vI many, vI fails, vI k, x] [] (hp N L B G) Q := by
  have hn10 : n ≤ 10 := by have := hP.1; omega
  intro m
  induction m with
  | zero =>
    intro k many fails G H x hk h hfr hm hf hx hQ
    have c0 : G 82 34 = (n : Int) := by rw [hfr.2 34 (by omega) (by omega), hp0.1.1, hn]
    have h1 : ¬ (k : Int) < (n : Int) := by omega
    have := hQ G H k x h.1 (sameK_r H) hfr hx
    simp (disch := first | omega | assumption) only [s173_24, s173_26, m173_27, s173_30, Int.toNat_natCast, Int.toNat_natCast, Nat.reduceAdd, Nat.reduceMul, Int.reduceToNat, Int.reduceAdd, Int.reduceLT, Int.reduceLE, Int.reduceEq, Int.reduceNeg, Int.reduceMul, Int.reduceSub, Nat.reduceSub, reduceIte, ite_true, ite_false, and_true, true_and, and_self, c0, h1]
    exact this
  | succ m ih =>
    intro k many fails G H x hk h hfr hm hf hx hQ
    have c0 : G 82 34 = (n : Int) := by rw [hfr.2 34 (by omega) (by omega), hp0.1.1, hn]
    have h1 : (k : Int) < (n : Int) := by omega
    have hpk := hP.2.2.2.2.1 k (by omega)
    have w1 : G 103 k = P 1 k := by rw [hfr.1 103 (by omega) (by omega) (by omega) (by omega)]; exact hp0.1.2 k (by omega)
    obtain ⟨b, hb⟩ : ∃ b : Nat, P 1 k = (b : Int) := ⟨(P 1 k).toNat, by omega⟩
    obtain ⟨G1, h158, v1, f1⟩ := sp158 (d := d) (b := b) (N := N) (L := L) (B := B) (by omega) h (by omega)
    rw [hb] at w1
    have ms1 := ms_mf h f1 v1 (strokeS_ok h.2.1)
    have e0 : goodS (lsR 2 rc 9) (P 1) (m + 1) k H many fails = if tunS (lsR 2 rc 9) H (P 1 k).toNat = true then goodS (lsR 2 rc 9) (P 1) m (k + 1) (strokeS H) (many + 1) fails else goodS (lsR 2 rc 9) (P 1) m (k + 1) (strokeS H) many (if fails = -5 then (k : Int) else fails) := rfl
    rw [e0, hb, Int.toNat_natCast] at hQ
    rw [s173_24]
    by_cases c : tunS (lsR 2 rc 9) H b = true
    · rw [if_pos c] at hQ
      rw [bI_t c] at h158
      have := ih (k + 1) (many + 1) fails G1 (strokeS H) (vI 1) (by omega) ms1 (mf_t hfr f1) (by omega) hf rfl (fun G' H' y x q1 q2 q3 q4 => hQ G' H' y x q1 (sameK_t q2 (sameK_stroke H)) q3 q4)
      simp (disch := first | omega | assumption) only [s173_26, m173_27, s173_30, s173_33, s173_34, m173_35, s173_38, m173_40, s173_44, s173_46, s173_47, s173_49, s173_49b, s173_52, s173_53, s173_56, s173_57, s173_58, s173_59, s173_61, s173_61b, s173_64, s173_65, s173_68, s173_70, s173_73, s173_74, s173_75, s173_78, Int.toNat_natCast, Int.toNat_natCast, Nat.reduceAdd, Nat.reduceMul, Int.reduceToNat, Int.reduceAdd, Int.reduceLT, Int.reduceLE, Int.reduceEq, Int.reduceNeg, Int.reduceMul, Int.reduceSub, Nat.reduceSub, reduceIte, ite_true, ite_false, and_true, true_and, and_self, c0, h1, w1, m173_41 h158]
      exact this
    · rw [if_neg c] at hQ
      rw [bI_f c] at h158
      by_cases cf : fails = -5
      · subst cf
        rw [if_pos rfl] at hQ
        have := ih (k + 1) many k G1 (strokeS H) (vI 0) (by omega) ms1 (mf_t hfr f1) (by omega) (by omega) rfl (fun G' H' y x q1 q2 q3 q4 => hQ G' H' y x q1 (sameK_t q2 (sameK_stroke H)) q3 q4)
        simp (disch := first | omega | assumption) only [s173_26, m173_27, s173_30, s173_33, s173_34, m173_35, s173_38, m173_40, s173_44, s173_46, s173_47, s173_49, s173_49b, s173_52, s173_53, s173_56, s173_57, s173_58, s173_59, s173_61, s173_61b, s173_64, s173_65, s173_68, s173_70, s173_73, s173_74, s173_75, s173_78, Int.toNat_natCast, Int.toNat_natCast, Nat.reduceAdd, Nat.reduceMul, Int.reduceToNat, Int.reduceAdd, Int.reduceLT, Int.reduceLE, Int.reduceEq, Int.reduceNeg, Int.reduceMul, Int.reduceSub, Nat.reduceSub, reduceIte, ite_true, ite_false, and_true, true_and, and_self, c0, h1, w1, m173_41 h158, Int.add_zero]
        exact this
      · rw [if_neg cf] at hQ
        have cf2 : ¬ fails < 0 := by omega
        have cf3 : 0 ≤ fails := by omega
        have := ih (k + 1) many fails G1 (strokeS H) (vI 0) (by omega) ms1 (mf_t hfr f1) (by omega) hf rfl (fun G' H' y x q1 q2 q3 q4 => hQ G' H' y x q1 (sameK_t q2 (sameK_stroke H)) q3 q4)
        simp (disch := first | omega | assumption) only [s173_26, m173_27, s173_30, s173_33, s173_34, m173_35, s173_38, m173_40, s173_44, s173_46, s173_47, s173_49, s173_49b, s173_52, s173_53, s173_56, s173_57, s173_58, s173_59, s173_61, s173_61b, s173_64, s173_65, s173_68, s173_70, s173_73, s173_74, s173_75, s173_78, Int.toNat_natCast, Int.toNat_natCast, Nat.reduceAdd, Nat.reduceMul, Int.reduceToNat, Int.reduceAdd, Int.reduceLT, Int.reduceLE, Int.reduceEq, Int.reduceNeg, Int.reduceMul, Int.reduceSub, Nat.reduceSub, reduceIte, ite_true, ite_false, and_true, true_and, and_self, c0, h1, w1, m173_41 h158, Int.add_zero, cf2, cf3]
        exact this
theorem sp173 {d N L : Nat} {the w : Int} {rc : List (Int × Int × List Int)} {B : q_Bv} {G H P : q_Gi} (hd : 8 ≤ d) (h : ms G H the rc) (hp' : mpv G P) (hP : Pok P) (hM : G 82 26 = 99999) (hw : -2147483648 ≤ w ∧ w ≤ 2147483647) : ∃ G', Sp d 173 [.ref 82, vI w] (hp N L B G) (some (vI (r73 (lsR 2 rc 9) H P w))) (hp N L B G') ∧ mv G' H ∧ G' 82 26 = 99999 ∧ mq G G' := by
  have h0 := h
  obtain ⟨hv, ho, h9, hm⟩ := h
  have a2 := sp109 (d := d - 1) (z := w) (lo := 0) (hi := 1) (X := hp N L B G) (by omega) hw (by omega) (by omega)
  by_cases hW : 0 ≤ w ∧ w ≤ 1
  · rw [bI_t hW] at a2
    obtain ⟨n, hn⟩ : ∃ n : Nat, P 0 0 = (n : Int) := ⟨(P 0 0).toNat, by have := hP.1; omega⟩
    obtain ⟨G1, h160, w1, k1, m1, f1⟩ := sp160 (d := d - 1) (N := N) (L := L) (B := B) (by omega) hv
    have ms1 : ms G1 H the rc := ms_mq h0 (mq_sf f1) w1 ho
    have hp1 : mpv G1 P := mpv_f hp' (fun a _ _ => f1.1 a (by omega) (by omega) (by omega)) (fun k _ _ => f1.2 k (by omega) (by omega) (by omega))
    have er : r73 (lsR 2 rc 9) H P w = if w = 0 then (goodS (lsR 2 rc 9) (P 1) n 0 H 0 (-5)).1 else (goodS (lsR 2 rc 9) (P 1) n 0 H 0 (-5)).2 := by
      unfold r73
      rw [hn, Int.toNat_natCast]
      by_cases c : w = 0
      · rw [if_pos c, if_pos c]
      · rw [if_neg c, if_neg c, if_pos (by omega)]
    rw [er]
    obtain ⟨r1, X1, hS, G', hr, hX, q⟩ := E173 (d := d) (X := hp N L B G) (z1 := w) (Q := fun r1 X1 => ∃ G', r1 = some (vI (if w = 0 then (goodS (lsR 2 rc 9) (P 1) n 0 H 0 (-5)).1 else (goodS (lsR 2 rc 9) (P 1) n 0 H 0 (-5)).2)) ∧ X1 = hp N L B G' ∧ mv G' H ∧ G' 82 26 = 99999 ∧ mq G G') (by omega) (by
      simp (disch := omega) only [s173_0, s173_1, s173_2, s173_3, s173_7, s173_7b, s173_10, s173_11, s173_12, s173_16, s173_17, s173_18, s173_20, s173_21, s173_22, Int.toNat_natCast, Int.toNat_natCast, Nat.reduceAdd, Nat.reduceMul, Int.reduceToNat, Int.reduceAdd, Int.reduceLT, Int.reduceLE, Int.reduceEq, Int.reduceNeg, Int.reduceMul, Int.reduceSub, Nat.reduceSub, reduceIte, ite_true, ite_false, and_true, true_and, and_self, m173_4 a2, m173_13 h160]
      refine lp173 (d := d - 1) (by omega) hP hp1 hn n 0 0 (-5) G1 H .null (by omega) ms1 (mf_r G1) (by omega) (Or.inl rfl) rfl (fun G' H' y x q1 q2 q3 q4 => ?_)
      obtain ⟨G3, h161, w3, m3, f3⟩ := sp161 (d := d - 1) (N := N) (L := L) (B := B) (by omega) q1 q2 (ks_f k1 q3)
      by_cases c : w = 0
      · rw [if_pos c]
        have c' := eq_true c
        simp (disch := first | omega | assumption) only [s173_81, s173_85, s173_86, s173_86b, s173_89, s173_90, s173_93, s173_94, Int.toNat_natCast, Int.toNat_natCast, Nat.reduceAdd, Nat.reduceMul, Int.reduceToNat, Int.reduceAdd, Int.reduceLT, Int.reduceLE, Int.reduceEq, Int.reduceNeg, Int.reduceMul, Int.reduceSub, Nat.reduceSub, reduceIte, ite_true, ite_false, and_true, true_and, and_self, m173_82 h161, c', if_true]
        exact ⟨G3, rfl, w3, m3, mq_t (mq_sf f1) (mq_t (mq_mf q3) (mq_pb f3))⟩
      · rw [if_neg c]
        have c' := eq_false c
        simp (disch := first | omega | assumption) only [s173_81, s173_85, s173_86, s173_86b, s173_89, s173_90, s173_93, s173_94, Int.toNat_natCast, Int.toNat_natCast, Nat.reduceAdd, Nat.reduceMul, Int.reduceToNat, Int.reduceAdd, Int.reduceLT, Int.reduceLE, Int.reduceEq, Int.reduceNeg, Int.reduceMul, Int.reduceSub, Nat.reduceSub, reduceIte, ite_true, ite_false, and_true, true_and, and_self, m173_82 h161, c', if_false]
        exact ⟨G3, rfl, w3, m3, mq_t (mq_sf f1) (mq_t (mq_mf q3) (mq_pb f3))⟩)
    exact ⟨G', by rw [hr, hX] at hS; exact hS, q⟩
  · rw [bI_f hW] at a2
    refine ⟨G, ?_, hv, hM, mq_r G⟩
    have er : r73 (lsR 2 rc 9) H P w = -1 := by unfold r73; rw [if_neg (by omega), if_neg (by omega)]
    rw [er]
    refine e173 (by omega) ?_
    simp (disch := omega) only [s173_0, s173_1, s173_2, s173_3, s173_7, s173_7b, s173_10, s173_11, Int.toNat_natCast, Int.toNat_natCast, Nat.reduceAdd, Nat.reduceMul, Int.reduceToNat, Int.reduceAdd, Int.reduceLT, Int.reduceLE, Int.reduceEq, Int.reduceNeg, Int.reduceMul, Int.reduceSub, Nat.reduceSub, reduceIte, ite_true, ite_false, and_true, true_and, and_self, m173_4 a2]
/-! gone -/
theorem lp183 {d n N L : Nat} {the w : Int} {rc : List (Int × Int × List Int)} {B : q_Bv} {P G0 : q_Gi} (hd : 6 ≤ d) (hP : Pok P) (hp0 : mpv G0 P) (hM : G0 82 26 = 2000000000) (hn : P 0 2 = (n : Int)) {Q : Option Value → q_H → Prop} : ∀ (m k : Nat) (G H : q_Gi), k + m = n → ms G H the rc → mf G0 G → H 0 1 + (m : Int) ≤ 20000 → H 0 2 + (m : Int) ≤ 200000 → (∀ (G' : q_Gi) (y : Int), mv G' (goneS (lsR 3 rc 0) (clR rc) P m k H) → Hok (goneS (lsR 3 rc 0) (clR rc) P m k H) → sameK (goneS (lsR 3 rc 0) (clR rc) P m k H) H → mf G0 G' → WP d 183 80 [.ref 82, vI w, vI y] [] (hp N L B G') Q) → WP d 183 18 [.ref 82, vI w, vI k] [] (hp N L B G) Q := by
  have hn10 : n ≤ 10 := by have := hP.2.2.1; omega
  intro m
  induction m with
  | zero =>
    intro k G H hk h hfr hd1 hd2 hQ
    have c0 : G 82 40 = (n : Int) := by rw [hfr.2 40 (by omega) (by omega), hp0.2.2.1.1, hn]
    have h1 : ¬ (k : Int) < (n : Int) := by omega
    have := hQ G k h.1 h.2.1 (sameK_r H) hfr
    simp (disch := first | omega | assumption) only [s183_18, s183_19, m183_20, s183_23, Int.toNat_natCast, Int.toNat_natCast, Nat.reduceAdd, Nat.reduceMul, Int.reduceToNat, Int.reduceAdd, Int.reduceLT, Int.reduceLE, Int.reduceEq, Int.reduceNeg, Int.reduceMul, Int.reduceSub, Nat.reduceSub, reduceIte, ite_true, ite_false, and_true, true_and, and_self, c0, h1]
    exact this
  | succ m ih =>
    intro k G H hk h hfr hd1 hd2 hQ
    have c0 : G 82 40 = (n : Int) := by rw [hfr.2 40 (by omega) (by omega), hp0.2.2.1.1, hn]
    have h1 : (k : Int) < (n : Int) := by omega
    have hg := lsR_r (w := 3) rc 0 (rcs_ok h.2.2.2) (by omega)
    have o7 := hP.2.2.2.2.2.2.2.2.1 k (by omega)
    have o8 := hP.2.2.2.2.2.2.2.2.2.1 k (by omega)
    have w1 : G 107 k = P 7 k := by rw [hfr.1 107 (by omega) (by omega) (by omega) (by omega)]; exact hp0.2.2.1.2.1 k (by omega)
    have w2 : G 108 k = if P 7 k = 6 then 0 else P 8 k := by rw [hfr.1 108 (by omega) (by omega) (by omega) (by omega)]; exact hp0.2.2.1.2.2 k (by omega)
    have e0 : goneS (lsR 3 rc 0) (clR rc) P (m + 1) k H = if P 7 k = 6 then goneS (lsR 3 rc 0) (clR rc) P m (k + 1) (dayS (lsR 3 rc 0) H) else if 0 < H 5 (P 8 k).toNat then goneS (lsR 3 rc 0) (clR rc) P m (k + 1) (eatS (clR rc) (P 7 k).toNat (P 8 k).toNat H) else goneS (lsR 3 rc 0) (clR rc) P m (k + 1) H := rfl
    rw [e0] at hQ
    rw [s183_18]
    by_cases c6 : P 7 k = 6
    · rw [if_pos c6] at hQ
      rw [c6] at w1
      obtain ⟨G1, h155, v1, f1⟩ := sp155 (d := d) (N := N) (L := L) (B := B) (by omega) h.1 h.2.1 h.2.2.1 h.2.2.2
      have hok := dayS_ok hg h.2.1 (by omega)
      have := ih (k + 1) G1 _ (by omega) (ms_mf h f1 v1 hok) (mf_t hfr f1) (by have : dayS (lsR 3 rc 0) H 0 1 = H 0 1 + 1 := rfl; omega) (by have : dayS (lsR 3 rc 0) H 0 2 = H 0 2 := rfl; omega) (fun G' y q1 q2 q3 q4 => hQ G' y q1 q2 (sameK_t q3 (sameK_day _ H)) q4)
      simp (disch := first | omega | assumption) only [s183_19, m183_20, s183_23, s183_26, m183_27, s183_30, m183_31, s183_32, s183_34, s183_34b, s183_37, s183_41, s183_44, m183_45, s183_48, m183_49, s183_52, m183_53, m183_54, s183_55, s183_58, s183_59, m183_60, s183_63, m183_64, s183_65, m183_66, s183_69, m183_70, s183_74, s183_77, Int.toNat_natCast, Int.toNat_natCast, Nat.reduceAdd, Nat.reduceMul, Int.reduceToNat, Int.reduceAdd, Int.reduceLT, Int.reduceLE, Int.reduceEq, Int.reduceNeg, Int.reduceMul, Int.reduceSub, Nat.reduceSub, reduceIte, ite_true, ite_false, and_true, true_and, and_self, c0, h1, w1, m183_38 h155]
      exact this
    · rw [if_neg c6] at hQ w2
      obtain ⟨b, hb⟩ : ∃ b : Nat, P 7 k = (b : Int) := ⟨(P 7 k).toNat, by omega⟩
      obtain ⟨e, he⟩ : ∃ e : Nat, P 8 k = (e : Int) := ⟨(P 8 k).toNat, by omega⟩
      rw [hb, he, Int.toNat_natCast, Int.toNat_natCast] at hQ
      rw [hb] at w1
      rw [he] at w2
      have b6 : b < 6 := by omega
      have n6 : ¬ (b : Int) = 6 := by omega
      have vs := h.1.2.2.2.2.2.2.2 e (by omega)
      have hs := h.2.1.2.2.2.2.2.1 e (by omega)
      by_cases c5 : 0 < H 5 e
      · rw [if_pos c5] at hQ
        obtain ⟨G1, h153, v1, f1⟩ := sp153 (d := d) (b := b) (e := e) (M := 2000000000) (N := N) (L := L) (B := B) (by omega) h.1 h.2.1 b6 (by omega) h.2.2.1 h.2.2.2 (by rw [hfr.2 26 (by omega) (by omega)]; exact hM) (by omega) c5
        rw [eatM_s (by omega)] at v1
        have hok := eatS_k (clR_k h.2.2.2) h.2.1 b6 (by omega) c5 (by omega)
        have := ih (k + 1) G1 _ (by omega) (ms_mf h f1 v1 hok) (mf_t hfr f1) (by have : eatS (clR rc) b e H 0 1 = H 0 1 := rfl; omega) (by have : eatS (clR rc) b e H 0 2 = H 0 2 + 1 := rfl; omega) (fun G' y q1 q2 q3 q4 => hQ G' y q1 q2 (sameK_t q3 (sameK_eat _ b e H)) q4)
        simp (disch := first | omega | assumption) only [s183_19, m183_20, s183_23, s183_26, m183_27, s183_30, m183_31, s183_32, s183_34, s183_34b, s183_37, s183_41, s183_44, m183_45, s183_48, m183_49, s183_52, m183_53, m183_54, s183_55, s183_58, s183_59, m183_60, s183_63, m183_64, s183_65, m183_66, s183_69, m183_70, s183_74, s183_77, Int.toNat_natCast, Int.toNat_natCast, Nat.reduceAdd, Nat.reduceMul, Int.reduceToNat, Int.reduceAdd, Int.reduceLT, Int.reduceLE, Int.reduceEq, Int.reduceNeg, Int.reduceMul, Int.reduceSub, Nat.reduceSub, reduceIte, ite_true, ite_false, and_true, true_and, and_self, c0, h1, w1, w2, n6, vs, c5, m183_71 h153]
        exact this
      · rw [if_neg c5] at hQ
        have c5' : H 5 e ≤ 0 := by omega
        have := ih (k + 1) G H (by omega) h hfr (by omega) (by omega) hQ
        simp (disch := first | omega | assumption) only [s183_19, m183_20, s183_23, s183_26, m183_27, s183_30, m183_31, s183_32, s183_34, s183_34b, s183_37, s183_41, s183_44, m183_45, s183_48, m183_49, s183_52, m183_53, m183_54, s183_55, s183_58, s183_59, m183_60, s183_63, m183_64, s183_65, m183_66, s183_69, m183_70, s183_74, s183_77, Int.toNat_natCast, Int.toNat_natCast, Nat.reduceAdd, Nat.reduceMul, Int.reduceToNat, Int.reduceAdd, Int.reduceLT, Int.reduceLE, Int.reduceEq, Int.reduceNeg, Int.reduceMul, Int.reduceSub, Nat.reduceSub, reduceIte, ite_true, ite_false, and_true, true_and, and_self, c0, h1, w1, w2, n6, vs, c5, c5']
        exact this
theorem gone_02 {g : Int} {cl : List (Int × List Int)} {P : q_Gi} : ∀ (m k : Nat) (H : q_Gi), goneS g cl P m k H 0 2 - H 0 2 ≤ (m : Int) ∧ 0 ≤ goneS g cl P m k H 0 2 - H 0 2 := by
  intro m
  induction m with
  | zero => intro k H; show H 0 2 - H 0 2 ≤ _ ∧ 0 ≤ H 0 2 - H 0 2; omega
  | succ m ih =>
    intro k H
    have e0 : goneS g cl P (m + 1) k H = if P 7 k = 6 then goneS g cl P m (k + 1) (dayS g H) else if 0 < H 5 (P 8 k).toNat then goneS g cl P m (k + 1) (eatS cl (P 7 k).toNat (P 8 k).toNat H) else goneS g cl P m (k + 1) H := rfl
    rw [e0]
    by_cases c6 : P 7 k = 6
    · rw [if_pos c6]
      have := ih (k + 1) (dayS g H)
      have e : dayS g H 0 2 = H 0 2 := rfl
      omega
    rw [if_neg c6]
    by_cases c5 : 0 < H 5 (P 8 k).toNat
    · rw [if_pos c5]
      have := ih (k + 1) (eatS cl (P 7 k).toNat (P 8 k).toNat H)
      have e : eatS cl (P 7 k).toNat (P 8 k).toNat H 0 2 = H 0 2 + 1 := rfl
      omega
    · rw [if_neg c5]
      have := ih (k + 1) H
      omega
theorem sp183 {d N L : Nat} {the w : Int} {rc : List (Int × Int × List Int)} {B : q_Bv} {G H P : q_Gi} (hd : 8 ≤ d) (h : ms G H the rc) (hp' : mpv G P) (hP : Pok P) (hday : H 0 1 ≤ 9999) (hea : H 0 2 ≤ 99999) (hM : G 82 26 = 99999) (hw : -2147483648 ≤ w ∧ w ≤ 2147483647) : ∃ G', Sp d 183 [.ref 82, vI w] (hp N L B G) (some (vI (r80 (lsR 2 rc 9) (lsR 3 rc 0) (clR rc) H P w))) (hp N L B G') ∧ mv G' H ∧ G' 82 26 = 99999 ∧ mq G G' := by
  have h0 := h
  obtain ⟨hv, ho, h9, hm⟩ := h
  have a2 := sp109 (d := d - 1) (z := w) (lo := 0) (hi := 1) (X := hp N L B G) (by omega) hw (by omega) (by omega)
  by_cases hW : 0 ≤ w ∧ w ≤ 1
  · rw [bI_t hW] at a2
    obtain ⟨n, hn⟩ : ∃ n : Nat, P 0 2 = (n : Int) := ⟨(P 0 2).toNat, by have := hP.2.2.1; omega⟩
    have hn10 : n ≤ 10 := by have := hP.2.2.1; omega
    obtain ⟨G1, h160, w1, k1, m1, f1⟩ := sp160 (d := d - 1) (N := N) (L := L) (B := B) (by omega) hv
    have ms1 : ms G1 H the rc := ms_mq h0 (mq_sf f1) w1 ho
    have hp1 : mpv G1 P := mpv_f hp' (fun a _ _ => f1.1 a (by omega) (by omega) (by omega)) (fun k _ _ => f1.2 k (by omega) (by omega) (by omega))
    have er : r80 (lsR 2 rc 9) (lsR 3 rc 0) (clR rc) H P w = if w = 0 then goneS (lsR 3 rc 0) (clR rc) P n 0 H 0 2 - H 0 2 else tbS (tunS (lsR 2 rc 9) (goneS (lsR 3 rc 0) (clR rc) P n 0 H)) (H 0 0).toNat := by
      unfold r80
      rw [hn, Int.toNat_natCast]
      by_cases c : w = 0
      · rw [if_pos c, if_pos c]
      · rw [if_neg c, if_neg c, if_pos (by omega)]
    rw [er]
    obtain ⟨r1, X1, hS, G', hr, hX, q⟩ := E183 (d := d) (X := hp N L B G) (z1 := w) (Q := fun r1 X1 => ∃ G', r1 = some (vI (if w = 0 then goneS (lsR 3 rc 0) (clR rc) P n 0 H 0 2 - H 0 2 else tbS (tunS (lsR 2 rc 9) (goneS (lsR 3 rc 0) (clR rc) P n 0 H)) (H 0 0).toNat)) ∧ X1 = hp N L B G' ∧ mv G' H ∧ G' 82 26 = 99999 ∧ mq G G') (by omega) (by
      simp (disch := omega) only [s183_0, s183_1, s183_2, s183_3, s183_7, s183_7b, s183_10, s183_11, s183_12, s183_16, s183_17, Int.toNat_natCast, Int.toNat_natCast, Nat.reduceAdd, Nat.reduceMul, Int.reduceToNat, Int.reduceAdd, Int.reduceLT, Int.reduceLE, Int.reduceEq, Int.reduceNeg, Int.reduceMul, Int.reduceSub, Nat.reduceSub, reduceIte, ite_true, ite_false, and_true, true_and, and_self, m183_4 a2, m183_13 h160]
      refine lp183 (d := d - 1) (by omega) hP hp1 m1 hn n 0 G1 H (by omega) ms1 (mf_r G1) (by omega) (by omega) (fun G' y q1 q2 q3 q4 => ?_)
      have ms2 := ms_mf ms1 q4 q1 q2
      have h150 := sp150 (d := d - 1) (N := N) (L := L) (B := B) (by omega) ms2.1 ms2.2.1 ms2.2.2.1 ms2.2.2.2
      rw [q3.1] at h150
      obtain ⟨G3, h161, w3, m3, f3⟩ := sp161 (d := d - 1) (N := N) (L := L) (B := B) (by omega) q1 q3 (ks_f k1 q4)
      have e2 := q1.2.2.1
      have e28 := (ks_f k1 q4).2.1
      by_cases c : w = 0
      · rw [if_pos c]
        have c' := eq_true c
        simp (disch := first | omega | assumption) only [s183_80, s183_81, s183_81b, s183_84, m183_85, s183_88, m183_89, s183_92, s183_93, s183_96, s183_100, s183_101, s183_105, s183_106, Int.toNat_natCast, Int.toNat_natCast, Nat.reduceAdd, Nat.reduceMul, Int.reduceToNat, Int.reduceAdd, Int.reduceLT, Int.reduceLE, Int.reduceEq, Int.reduceNeg, Int.reduceMul, Int.reduceSub, Nat.reduceSub, reduceIte, ite_true, ite_false, and_true, true_and, and_self, m183_102 h161, c', if_true, e2, e28]
        exact ⟨G3, rfl, w3, m3, mq_t (mq_sf f1) (mq_t (mq_mf q4) (mq_pb f3))⟩
      · rw [if_neg c]
        have c' := eq_false c
        simp (disch := first | omega | assumption) only [s183_80, s183_81, s183_81b, s183_84, m183_85, s183_88, m183_89, s183_92, s183_93, s183_96, s183_100, s183_101, s183_105, s183_106, Int.toNat_natCast, Int.toNat_natCast, Nat.reduceAdd, Nat.reduceMul, Int.reduceToNat, Int.reduceAdd, Int.reduceLT, Int.reduceLE, Int.reduceEq, Int.reduceNeg, Int.reduceMul, Int.reduceSub, Nat.reduceSub, reduceIte, ite_true, ite_false, and_true, true_and, and_self, m183_97 h150, m183_102 h161, c', if_false]
        exact ⟨G3, rfl, w3, m3, mq_t (mq_sf f1) (mq_t (mq_mf q4) (mq_pb f3))⟩)
    exact ⟨G', by rw [hr, hX] at hS; exact hS, q⟩
  · rw [bI_f hW] at a2
    refine ⟨G, ?_, hv, hM, mq_r G⟩
    have er : r80 (lsR 2 rc 9) (lsR 3 rc 0) (clR rc) H P w = -1 := by unfold r80; rw [if_neg (by omega), if_neg (by omega)]
    rw [er]
    refine e183 (by omega) ?_
    simp (disch := omega) only [s183_0, s183_1, s183_2, s183_3, s183_7, s183_7b, s183_10, s183_11, Int.toNat_natCast, Int.toNat_natCast, Nat.reduceAdd, Nat.reduceMul, Int.reduceToNat, Int.reduceAdd, Int.reduceLT, Int.reduceLE, Int.reduceEq, Int.reduceNeg, Int.reduceMul, Int.reduceSub, Nat.reduceSub, reduceIte, ite_true, ite_false, and_true, true_and, and_self, m183_4 a2]
