/-! the model: came, meal -/
theorem tun_eat {t : Int} {cl : List (Int × List Int)} {b m : Nat} {H : q_Gi} {x : Int} (hs : sameK (eatD cl b m H) H) (h3 : eatD cl b m H 3 b = x) : tunS t (eatD cl b m H) b = tunedS t (H 1 b) (H 2 b) x := by
  unfold tunS
  rw [hs.2.1, hs.2.2.1, h3]
theorem fi_r {cl : List (Int × List Int)} {b m : Nat} {H : q_Gi} (ho : Hok (eatD cl b m H)) (hb : b < 6) : 0 ≤ eatD cl b m H 3 b ∧ eatD cl b m H 3 b ≤ 99 := ho.2.2.2.1 b hb
theorem lp168 {d b N L : Nat} {the n : Int} {tn : Int → Bool} {rc : List (Int × Int × List Int)} {B : q_Bv} {G0 H : q_Gi} (hd : 8 ≤ d) (hb : b < 6) (hn : 0 ≤ n ∧ n ≤ 99) (hea : H 0 2 ≤ 99999) {Q : Option Value → q_H → Prop} : ∀ (r m : Nat) (st : Int × Int × List Nat) (G : q_Gi), m + r = 625 → ms G H the rc → G 82 26 = 99999 → mq G0 G → (∀ G' : q_Gi, mv G' H → G' 82 26 = 99999 → mq G0 G' → Q (some (vI (numF (stoN H) (feS (clR rc) (H 1 b) (H 2 b) b (H 0 1)) tn n (H 3 b) (List.range' m r) st).1)) (hp N L B G')) → WP d 168 26 [.ref 82, vI b, vI n, vI st.1, vI m] [] (hp N L B G) Q := by
  intro r
  induction r with
  | zero =>
    intro m st G hm h hM hfr hQ
    have h1 : ¬ (m : Int) < 625 := by omega
    have := hQ G h.1 hM hfr
    simp (disch := omega) only [s168_26, s168_28, s168_31, s168_83, s168_84, Int.toNat_natCast, Int.toNat_natCast, Nat.reduceAdd, Nat.reduceMul, Int.reduceToNat, Int.reduceAdd, Int.reduceLT, Int.reduceLE, Int.reduceEq, Int.reduceNeg, Int.reduceMul, Int.reduceSub, Nat.reduceSub, reduceIte, ite_true, ite_false, and_true, true_and, and_self, h1]
    exact this
  | succ r ih =>
    intro m st G hm h hM hfr hQ
    have h1 : (m : Int) < 625 := by omega
    have hsto : ∀ j, j < 4 → G 87 j = (stoN H j : Int) := fun j hj => by
      rw [h.1.2.2.2.2.2.2.2 j hj]; have := h.2.1.2.2.2.2.2.1 j hj; unfold stoN; omega
    have hsto2 : ∀ j, j < 4 → stoN H j ≤ 99 := fun j hj => by have := h.2.1.2.2.2.2.2.1 j hj; unfold stoN; omega
    obtain ⟨G1, h165, d1, f1⟩ := sp165 (d := d) (m := m) (N := N) (L := L) (B := B) (by omega) (by omega) hsto hsto2
    have v1 := mv_f h.1 (fun a _ _ => f1 a (by omega))
    have q1 : mq G G1 := ⟨fun a _ _ _ w => f1 a (by omega), fun k _ _ _ _ _ => by rw [f1 82 (by omega)]⟩
    have ms1 := ms_mq h q1 v1 h.2.1
    have e0 : numF (stoN H) (feS (clR rc) (H 1 b) (H 2 b) b (H 0 1)) tn n (H 3 b) (List.range' m (r + 1)) st = numF (stoN H) (feS (clR rc) (H 1 b) (H 2 b) b (H 0 1)) tn n (H 3 b) (List.range' (m + 1) r) (if okN (stoN H) m = true then wghS tn n st (suN m, fiN (feS (clR rc) (H 1 b) (H 2 b) b (H 0 1)) m (H 3 b), dgN m) else st) := rfl
    rw [e0] at hQ
    rw [s168_26]
    by_cases c : okN (stoN H) m = true
    · rw [if_pos c] at hQ h165
      have s4 := (okN_iff.mp c).2.2.2.2
      have hsu : suN m ≤ 4 := s4
      obtain ⟨G2, h160, w2, k2, m2, f2⟩ := sp160 (d := d) (N := N) (L := L) (B := B) (by omega) v1
      have ms2 : ms G2 H the rc := ms_mq ms1 (mq_sf f2) w2 h.2.1
      obtain ⟨G3, h166, w3, f3, ok3, sk3, e3⟩ := sp166 (d := d) (b := b) (m := m) (N := N) (L := L) (B := B) (by omega) ms2 hb m2 hea c (fun j hj => by rw [f2.1 100 (by omega) (by omega) (by omega)]; exact d1 c j hj)
      have r3 := fi_r ok3 hb
      have wf := w3.2.2.2.2.2.1 b hb
      rw [e3] at wf r3
      obtain ⟨G4, h161, w4, m4, f4⟩ := sp161 (d := d) (N := N) (L := L) (B := B) (by omega) w3 sk3 (ks_f k2 f3)
      have qq : mq G G4 := mq_t q1 (mq_t (mq_sf f2) (mq_t (mq_mf f3) (mq_pb f4)))
      have := ih (m + 1) (wghS tn n st (suN m, fiN (feS (clR rc) (H 1 b) (H 2 b) b (H 0 1)) m (H 3 b), dgN m)) G4 (by omega) (ms_mq h qq w4 h.2.1) m4 (mq_t hfr qq) hQ
      have ew : (wghS tn n st (suN m, fiN (feS (clR rc) (H 1 b) (H 2 b) b (H 0 1)) m (H 3 b), dgN m)).1 = st.1 + bI (fiN (feS (clR rc) (H 1 b) (H 2 b) b (H 0 1)) m (H 3 b) = n) := rfl
      rw [ew] at this
      have sn : ¬ (suN m : Int) < 0 := by omega
      by_cases cf : fiN (feS (clR rc) (H 1 b) (H 2 b) b (H 0 1)) m (H 3 b) = n
      · rw [bI_t cf] at this
        have cf' := eq_true cf
        simp (disch := omega) only [s168_28, s168_31, s168_34, s168_35, s168_40, s168_43, s168_46, s168_50, s168_51, s168_55, s168_56, m168_57, s168_60, m168_61, s168_62, s168_63, s168_63b, s168_66, s168_67, s168_70, s168_71, s168_72, s168_73, s168_77, s168_80, Int.toNat_natCast, Int.toNat_natCast, Nat.reduceAdd, Nat.reduceMul, Int.reduceToNat, Int.reduceAdd, Int.reduceLT, Int.reduceLE, Int.reduceEq, Int.reduceNeg, Int.reduceMul, Int.reduceSub, Nat.reduceSub, reduceIte, ite_true, ite_false, and_true, true_and, and_self, h1, m168_37 h165, sn, m168_47 h160, m168_52 h166, wf, cf', if_true, m168_74 h161]
        exact this
      · rw [bI_f cf] at this
        have cf' := eq_false cf
        simp (disch := omega) only [s168_28, s168_31, s168_34, s168_35, s168_40, s168_43, s168_46, s168_50, s168_51, s168_55, s168_56, m168_57, s168_60, m168_61, s168_62, s168_63, s168_63b, s168_66, s168_67, s168_70, s168_71, s168_72, s168_73, s168_77, s168_80, Int.toNat_natCast, Int.toNat_natCast, Nat.reduceAdd, Nat.reduceMul, Int.reduceToNat, Int.reduceAdd, Int.reduceLT, Int.reduceLE, Int.reduceEq, Int.reduceNeg, Int.reduceMul, Int.reduceSub, Nat.reduceSub, reduceIte, ite_true, ite_false, and_true, true_and, and_self, h1, m168_37 h165, sn, m168_47 h160, m168_52 h166, wf, cf', if_false, m168_74 h161]
        exact this
    · rw [if_neg c] at hQ h165
      have := ih (m + 1) st G1 (by omega) ms1 (by rw [f1 82 (by omega)]; exact hM) (mq_t hfr q1) hQ
      simp (disch := omega) only [s168_28, s168_31, s168_34, s168_35, s168_40, s168_43, s168_46, s168_50, s168_51, s168_55, s168_56, m168_57, s168_60, m168_61, s168_62, s168_63, s168_63b, s168_66, s168_67, s168_70, s168_71, s168_72, s168_73, s168_77, s168_80, Int.toNat_natCast, Int.toNat_natCast, Nat.reduceAdd, Nat.reduceMul, Int.reduceToNat, Int.reduceAdd, Int.reduceLT, Int.reduceLE, Int.reduceEq, Int.reduceNeg, Int.reduceMul, Int.reduceSub, Nat.reduceSub, reduceIte, ite_true, ite_false, and_true, true_and, and_self, h1, m168_37 h165]
      exact this
theorem sp168 {d N L : Nat} {the b n : Int} {rc : List (Int × Int × List Int)} {B : q_Bv} {G H : q_Gi} (hd : 10 ≤ d) (h : ms G H the rc) (hea : H 0 2 ≤ 99999) (hM : G 82 26 = 99999) (hb : -2147483648 ≤ b ∧ b ≤ 2147483647) (hn : -2147483648 ≤ n ∧ n ≤ 2147483647) : ∃ G', Sp d 168 [.ref 82, vI b, vI n] (hp N L B G) (some (vI (cameS (lsR 2 rc 9) (clR rc) H b n))) (hp N L B G') ∧ mv G' H ∧ G' 82 26 = 99999 ∧ mq G G' := by
  have h0 := h
  obtain ⟨hv, ho, h9, hm⟩ := h
  have v0 := hv.1
  have hb6 := ho.1
  have a1 := sp113 (d := d - 1) (z := b) (N := N) (L := L) (B := B) (G := G) (by omega) hb (by rw [v0]; exact ho.1)
  rw [v0] at a1
  have a2 := sp115 (d := d - 1) (z := n) (N := N) (L := L) (B := B) (G := G) (by omega) hn
  unfold cameS
  by_cases cb : 0 ≤ b ∧ b < H 0 0
  · rw [if_pos cb]
    rw [bI_t cb] at a1
    by_cases cn : 0 ≤ n ∧ n ≤ 99
    · rw [if_pos cn]
      rw [bI_t cn] at a2
      obtain ⟨k, rfl⟩ : ∃ k : Nat, b = (k : Int) := ⟨b.toNat, by omega⟩
      rw [Int.toNat_natCast]
      unfold mealR
      rw [meals_N]
      obtain ⟨r1, X1, hS, G', hr, hX, q⟩ := E168 (d := d) (X := hp N L B G) (z1 := (k : Int)) (z2 := n) (Q := fun r1 X1 => ∃ G', r1 = some (vI (numF (stoN H) (feS (clR rc) (H 1 k) (H 2 k) k (H 0 1)) (fun y => tunedS (lsR 2 rc 9) (H 1 k) (H 2 k) y) n (H 3 k) (List.range' 0 625) (0, -5, [])).1) ∧ X1 = hp N L B G' ∧ mv G' H ∧ G' 82 26 = 99999 ∧ mq G G') (by omega) (by
        simp (disch := omega) only [s168_0, s168_1, s168_5, s168_5b, s168_8, s168_9, s168_10, s168_11, s168_15, s168_15b, s168_18, s168_20, s168_21, s168_22, s168_23, s168_24, Int.toNat_natCast, Int.toNat_natCast, Nat.reduceAdd, Nat.reduceMul, Int.reduceToNat, Int.reduceAdd, Int.reduceLT, Int.reduceLE, Int.reduceEq, Int.reduceNeg, Int.reduceMul, Int.reduceSub, Nat.reduceSub, reduceIte, ite_true, ite_false, and_true, true_and, and_self, m168_2 a1, m168_12 a2]
        exact lp168 (d := d - 1) (by omega) (by omega) cn hea 625 0 (0, -5, []) G rfl h0 hM (mq_r G) (fun G' q1 q2 q3 => ⟨G', rfl, rfl, q1, q2, q3⟩))
      exact ⟨G', by rw [hr, hX] at hS; exact hS, q⟩
    · rw [if_neg cn]
      rw [bI_f cn] at a2
      refine ⟨G, ?_, hv, hM, mq_r G⟩
      refine e168 (by omega) ?_
      simp (disch := omega) only [s168_0, s168_1, s168_5, s168_5b, s168_8, s168_9, s168_10, s168_11, s168_15, s168_15b, s168_18, s168_20, s168_21, s168_22, s168_23, s168_24, Int.toNat_natCast, Int.toNat_natCast, Nat.reduceAdd, Nat.reduceMul, Int.reduceToNat, Int.reduceAdd, Int.reduceLT, Int.reduceLE, Int.reduceEq, Int.reduceNeg, Int.reduceMul, Int.reduceSub, Nat.reduceSub, reduceIte, ite_true, ite_false, and_true, true_and, and_self, m168_2 a1, m168_12 a2]
  · rw [if_neg cb]
    rw [bI_f cb] at a1
    refine ⟨G, ?_, hv, hM, mq_r G⟩
    refine e168 (by omega) ?_
    simp (disch := omega) only [s168_0, s168_1, s168_5, s168_5b, s168_8, s168_9, s168_10, s168_11, s168_15, s168_15b, s168_18, s168_20, s168_21, s168_22, s168_23, s168_24, Int.toNat_natCast, Int.toNat_natCast, Nat.reduceAdd, Nat.reduceMul, Int.reduceToNat, Int.reduceAdd, Int.reduceLT, Int.reduceLE, Int.reduceEq, Int.reduceNeg, Int.reduceMul, Int.reduceSub, Nat.reduceSub, reduceIte, ite_true, ite_false, and_true, true_and, and_self, m168_2 a1]
/-- a MEAL by which it is in tune -/
def gdN (s : Nat → Nat) (fe : Nat → Int → Int) (tn : Int → Bool) (x : Int) (m : Nat) : Bool := okN s m && tn (fiN fe m x)
theorem numF_2 {s : Nat → Nat} {fe : Nat → Int → Int} {tn : Int → Bool} {so x : Int} : ∀ (l : List Nat) (st : Int × Int × List Nat), (numF s fe tn so x l st).2 = ascN (gdN s fe tn x) suN dgN l st.2
  | [], _ => rfl
  | m :: l, st => by
    have e1 : numF s fe tn so x (m :: l) st = numF s fe tn so x l (if okN s m = true then wghS tn so st (suN m, fiN fe m x, dgN m) else st) := rfl
    have e2 : ascN (gdN s fe tn x) suN dgN (m :: l) st.2 = ascN (gdN s fe tn x) suN dgN l (if gdN s fe tn x m = true ∧ (st.2.1 < 0 ∨ (suN m : Int) ≤ st.2.1) then ((suN m : Int), dgN m) else st.2) := rfl
    rw [e1, e2, numF_2 l]
    congr 1
    unfold gdN
    by_cases c : okN s m = true
    · rw [if_pos c, c]
      show (if tn (fiN fe m x) = true ∧ (st.2.1 < 0 ∨ (suN m : Int) ≤ st.2.1) then ((suN m : Int), dgN m) else st.2) = _
      rw [Bool.true_and]
    · have c2 : okN s m = false := by cases h : okN s m <;> simp_all
      rw [if_neg c, c2, Bool.false_and, if_neg (fun h => Bool.false_ne_true h.1)]
theorem gd_4 {s : Nat → Nat} {fe : Nat → Int → Int} {tn : Int → Bool} {x : Int} : ∀ m, gdN s fe tn x m = true → suN m ≤ 4 := by
  intro m h
  unfold gdN at h
  rw [Bool.and_eq_true] at h
  exact (okN_iff.mp h.1).2.2.2.2
theorem lp167 {d b N L : Nat} {the w : Int} {rc : List (Int × Int × List Int)} {B : q_Bv} {G0 H : q_Gi} (hd : 8 ≤ d) (hb : b < 6) (hea : H 0 2 ≤ 99999) {Q : Option Value → q_H → Prop} : ∀ (k : Nat) (G : q_Gi) (x y : Value), k ≤ 625 → ms G H the rc → G 82 26 = 99999 → mq G0 G → nL x = true → nL y = true → (∀ (G' : q_Gi) (x y : Value), mv G' H → G' 82 26 = 99999 → mq G0 G' → nL x = true → nL y = true → WP d 167 99 [.ref 82, vI b, vI w, vI (dscN (gdN (stoN H) (feS (clR rc) (H 1 b) (H 2 b) b (H 0 1)) (fun y => tunedS (lsR 2 rc 9) (H 1 b) (H 2 b) y) (H 3 b)) suN (List.range' 0 625)).1, vI (dscN (gdN (stoN H) (feS (clR rc) (H 1 b) (H 2 b) b (H 0 1)) (fun y => tunedS (lsR 2 rc 9) (H 1 b) (H 2 b) y) (H 3 b)) suN (List.range' 0 625)).2, vI (-1), x, y] [] (hp N L B G') Q) → WP d 167 30 [.ref 82, vI b, vI w, vI (dscN (gdN (stoN H) (feS (clR rc) (H 1 b) (H 2 b) b (H 0 1)) (fun y => tunedS (lsR 2 rc 9) (H 1 b) (H 2 b) y) (H 3 b)) suN (List.range' k (625 - k))).1, vI (dscN (gdN (stoN H) (feS (clR rc) (H 1 b) (H 2 b) b (H 0 1)) (fun y => tunedS (lsR 2 rc 9) (H 1 b) (H 2 b) y) (H 3 b)) suN (List.range' k (625 - k))).2, vI ((k : Int) - 1), x, y] [] (hp N L B G) Q := by
  intro k
  induction k with
  | zero =>
    intro G x y hk h hM hfr hx hy hQ
    have := hQ G x y h.1 hM hfr hx hy
    simp (disch := omega) only [s167_30, s167_32, Int.toNat_natCast, Int.toNat_natCast, Nat.reduceAdd, Nat.reduceMul, Int.reduceToNat, Int.reduceAdd, Int.reduceLT, Int.reduceLE, Int.reduceEq, Int.reduceNeg, Int.reduceMul, Int.reduceSub, Nat.reduceSub, reduceIte, ite_true, ite_false, and_true, true_and, and_self, show ((0 : Nat) : Int) - 1 = -1 from rfl]
    exact this
  | succ m ih =>
    intro G x y hk h hM hfr hx hy hQ
    have e1 : ((m + 1 : Nat) : Int) - 1 = (m : Int) := by omega
    have h1 : ¬ (m : Int) < 0 := by omega
    have hsto : ∀ j, j < 4 → G 87 j = (stoN H j : Int) := fun j hj => by
      rw [h.1.2.2.2.2.2.2.2 j hj]; have := h.2.1.2.2.2.2.2.1 j hj; unfold stoN; omega
    have hsto2 : ∀ j, j < 4 → stoN H j ≤ 99 := fun j hj => by have := h.2.1.2.2.2.2.2.1 j hj; unfold stoN; omega
    obtain ⟨G1, h165, d1, f1⟩ := sp165 (d := d) (m := m) (N := N) (L := L) (B := B) (by omega) (by omega) hsto hsto2
    have v1 := mv_f h.1 (fun a _ _ => f1 a (by omega))
    have q1 : mq G G1 := ⟨fun a _ _ _ w => f1 a (by omega), fun k _ _ _ _ _ => by rw [f1 82 (by omega)]⟩
    have ms1 := ms_mq h q1 v1 h.2.1
    have hM1 : G1 82 26 = 99999 := by rw [f1 82 (by omega)]; exact hM
    have er : List.range' m (625 - m) = m :: List.range' (m + 1) (625 - (m + 1)) := by
      rw [show 625 - m = (625 - (m + 1)) + 1 by omega, List.range'_succ]
    have dr := dsc_r (gd := gdN (stoN H) (feS (clR rc) (H 1 b) (H 2 b) b (H 0 1)) (fun y => tunedS (lsR 2 rc 9) (H 1 b) (H 2 b) y) (H 3 b)) (cn := suN) gd_4 (List.range' (m + 1) (625 - (m + 1)))
    have ih' := fun G x y => ih G x y (by omega)
    rw [er] at ih'
    have ed : dscN (gdN (stoN H) (feS (clR rc) (H 1 b) (H 2 b) b (H 0 1)) (fun y => tunedS (lsR 2 rc 9) (H 1 b) (H 2 b) y) (H 3 b)) suN (m :: List.range' (m + 1) (625 - (m + 1))) = if gdN (stoN H) (feS (clR rc) (H 1 b) (H 2 b) b (H 0 1)) (fun y => tunedS (lsR 2 rc 9) (H 1 b) (H 2 b) y) (H 3 b) m = true ∧ (suN m : Int) < (dscN (gdN (stoN H) (feS (clR rc) (H 1 b) (H 2 b) b (H 0 1)) (fun y => tunedS (lsR 2 rc 9) (H 1 b) (H 2 b) y) (H 3 b)) suN (List.range' (m + 1) (625 - (m + 1)))).2 then ((m : Int), (suN m : Int)) else dscN (gdN (stoN H) (feS (clR rc) (H 1 b) (H 2 b) b (H 0 1)) (fun y => tunedS (lsR 2 rc 9) (H 1 b) (H 2 b) y) (H 3 b)) suN (List.range' (m + 1) (625 - (m + 1))) := rfl
    rw [ed] at ih'
    have egd : gdN (stoN H) (feS (clR rc) (H 1 b) (H 2 b) b (H 0 1)) (fun y => tunedS (lsR 2 rc 9) (H 1 b) (H 2 b) y) (H 3 b) m = (okN (stoN H) m && tunedS (lsR 2 rc 9) (H 1 b) (H 2 b) (fiN (feS (clR rc) (H 1 b) (H 2 b) b (H 0 1)) m (H 3 b))) := rfl
    rw [egd] at ih'
    have dr2 : -1 ≤ (dscN (gdN (stoN H) (feS (clR rc) (H 1 b) (H 2 b) b (H 0 1)) (fun y => tunedS (lsR 2 rc 9) (H 1 b) (H 2 b) y) (H 3 b)) suN (List.range' (m + 1) (625 - (m + 1)))).1 ∧ 0 ≤ (dscN (gdN (stoN H) (feS (clR rc) (H 1 b) (H 2 b) b (H 0 1)) (fun y => tunedS (lsR 2 rc 9) (H 1 b) (H 2 b) y) (H 3 b)) suN (List.range' (m + 1) (625 - (m + 1)))).2 ∧ (dscN (gdN (stoN H) (feS (clR rc) (H 1 b) (H 2 b) b (H 0 1)) (fun y => tunedS (lsR 2 rc 9) (H 1 b) (H 2 b) y) (H 3 b)) suN (List.range' (m + 1) (625 - (m + 1)))).2 ≤ 5 := by
      rcases dr with ⟨p1, p2⟩ | ⟨k, p1, p2, p3, p4⟩
      · omega
      · have := gd_4 k p4; omega
    clear dr ed egd ih
    generalize dscN (gdN (stoN H) (feS (clR rc) (H 1 b) (H 2 b) b (H 0 1)) (fun y => tunedS (lsR 2 rc 9) (H 1 b) (H 2 b) y) (H 3 b)) suN (List.range' (m + 1) (625 - (m + 1))) = o at ih' dr2 ⊢
    rw [e1]
    rw [s167_30]
    by_cases c : okN (stoN H) m = true
    · rw [if_pos c] at h165
      rw [c, Bool.true_and] at ih'
      have hsu : suN m ≤ 4 := (okN_iff.mp c).2.2.2.2
      have sn : ¬ (suN m : Int) < 0 := by omega
      by_cases cl : (suN m : Int) < o.2
      · obtain ⟨G2, h160, w2, k2, m2, f2⟩ := sp160 (d := d) (N := N) (L := L) (B := B) (by omega) v1
        have ms2 : ms G2 H the rc := ms_mq ms1 (mq_sf f2) w2 h.2.1
        obtain ⟨G3, h166, w3, f3, ok3, sk3, e3⟩ := sp166 (d := d) (b := b) (m := m) (N := N) (L := L) (B := B) (by omega) ms2 hb m2 hea c (fun j hj => by rw [f2.1 100 (by omega) (by omega) (by omega)]; exact d1 c j hj)
        have ms3 := ms_mf ms2 f3 w3 ok3
        have h148 := sp148 (d := d) (b := b) (N := N) (L := L) (B := B) (by omega) ms3.1 ms3.2.1 ms3.2.2.1 ms3.2.2.2 hb
        rw [tun_eat sk3 e3] at h148
        obtain ⟨G4, h161, w4, m4, f4⟩ := sp161 (d := d) (N := N) (L := L) (B := B) (by omega) w3 sk3 (ks_f k2 f3)
        have qq : mq G G4 := mq_t q1 (mq_t (mq_sf f2) (mq_t (mq_mf f3) (mq_pb f4)))
        by_cases ct : tunedS (lsR 2 rc 9) (H 1 b) (H 2 b) (fiN (feS (clR rc) (H 1 b) (H 2 b) b (H 0 1)) m (H 3 b)) = true
        · rw [bI_t ct] at h148
          have := ih' G4 (vI (suN m)) (vI 1) (ms_mq h qq w4 h.2.1) m4 (mq_t hfr qq) rfl rfl hQ
          rw [if_pos (And.intro ct cl)] at this
          simp (disch := first | omega | assumption) only [s167_32, s167_35, s167_36, s167_41, s167_43, s167_45, s167_48, s167_50, s167_52, s167_55, s167_58, s167_62, s167_63, s167_67, s167_68, s167_72, s167_74, s167_78, s167_80, s167_80b, s167_83, s167_86, s167_88, s167_89, s167_91, s167_93, s167_96, Int.toNat_natCast, Int.toNat_natCast, Nat.reduceAdd, Nat.reduceMul, Int.reduceToNat, Int.reduceAdd, Int.reduceLT, Int.reduceLE, Int.reduceEq, Int.reduceNeg, Int.reduceMul, Int.reduceSub, Nat.reduceSub, reduceIte, ite_true, ite_false, and_true, true_and, and_self, h1, m167_38 h165, sn, cl, m167_59 h160, m167_64 h166, m167_69 h148, m167_75 h161]
          exact this
        · rw [bI_f ct] at h148
          have := ih' G4 (vI (suN m)) (vI 0) (ms_mq h qq w4 h.2.1) m4 (mq_t hfr qq) rfl rfl hQ
          rw [if_neg (fun hh => ct hh.1)] at this
          simp (disch := first | omega | assumption) only [s167_32, s167_35, s167_36, s167_41, s167_43, s167_45, s167_48, s167_50, s167_52, s167_55, s167_58, s167_62, s167_63, s167_67, s167_68, s167_72, s167_74, s167_78, s167_80, s167_80b, s167_83, s167_86, s167_88, s167_89, s167_91, s167_93, s167_96, Int.toNat_natCast, Int.toNat_natCast, Nat.reduceAdd, Nat.reduceMul, Int.reduceToNat, Int.reduceAdd, Int.reduceLT, Int.reduceLE, Int.reduceEq, Int.reduceNeg, Int.reduceMul, Int.reduceSub, Nat.reduceSub, reduceIte, ite_true, ite_false, and_true, true_and, and_self, h1, m167_38 h165, sn, cl, m167_59 h160, m167_64 h166, m167_69 h148, m167_75 h161]
          exact this
      · have := ih' G1 (vI (suN m)) y ms1 hM1 (mq_t hfr q1) rfl hy hQ
        rw [if_neg (fun hh => cl hh.2)] at this
        simp (disch := first | omega | assumption) only [s167_32, s167_35, s167_36, s167_41, s167_43, s167_45, s167_48, s167_50, s167_52, s167_55, s167_58, s167_62, s167_63, s167_67, s167_68, s167_72, s167_74, s167_78, s167_80, s167_80b, s167_83, s167_86, s167_88, s167_89, s167_91, s167_93, s167_96, Int.toNat_natCast, Int.toNat_natCast, Nat.reduceAdd, Nat.reduceMul, Int.reduceToNat, Int.reduceAdd, Int.reduceLT, Int.reduceLE, Int.reduceEq, Int.reduceNeg, Int.reduceMul, Int.reduceSub, Nat.reduceSub, reduceIte, ite_true, ite_false, and_true, true_and, and_self, h1, m167_38 h165, sn, cl]
        exact this
    · rw [if_neg c] at h165
      have c2 : okN (stoN H) m = false := by cases hh : okN (stoN H) m <;> simp_all
      rw [c2, Bool.false_and] at ih'
      have := ih' G1 (vI (-1)) y ms1 hM1 (mq_t hfr q1) rfl hy hQ
      rw [if_neg (fun hh => Bool.false_ne_true hh.1)] at this
      simp (disch := first | omega | assumption) only [s167_32, s167_35, s167_36, s167_41, s167_43, s167_45, s167_48, s167_50, s167_52, s167_55, s167_58, s167_62, s167_63, s167_67, s167_68, s167_72, s167_74, s167_78, s167_80, s167_80b, s167_83, s167_86, s167_88, s167_89, s167_91, s167_93, s167_96, Int.toNat_natCast, Int.toNat_natCast, Nat.reduceAdd, Nat.reduceMul, Int.reduceToNat, Int.reduceAdd, Int.reduceLT, Int.reduceLE, Int.reduceEq, Int.reduceNeg, Int.reduceMul, Int.reduceSub, Nat.reduceSub, reduceIte, ite_true, ite_false, and_true, true_and, and_self, h1, m167_38 h165]
      exact this
theorem sp167 {d N L : Nat} {the b w : Int} {rc : List (Int × Int × List Int)} {B : q_Bv} {G H : q_Gi} (hd : 10 ≤ d) (h : ms G H the rc) (hea : H 0 2 ≤ 99999) (hM : G 82 26 = 99999) (hb : -2147483648 ≤ b ∧ b ≤ 2147483647) (hw : -2147483648 ≤ w ∧ w ≤ 2147483647) : ∃ G', Sp d 167 [.ref 82, vI b, vI w] (hp N L B G) (some (vI (mealS (lsR 2 rc 9) (clR rc) H b w))) (hp N L B G') ∧ mv G' H ∧ G' 82 26 = 99999 ∧ mq G G' := by
  have h0 := h
  obtain ⟨hv, ho, h9, hm⟩ := h
  have v0 := hv.1
  have hb6 := ho.1
  have a1 := sp113 (d := d - 1) (z := b) (N := N) (L := L) (B := B) (G := G) (by omega) hb (by rw [v0]; exact ho.1)
  rw [v0] at a1
  have a2 := sp109 (d := d - 1) (z := w) (lo := 0) (hi := 4) (X := hp N L B G) (by omega) hw (by omega) (by omega)
  unfold mealS
  by_cases cb : 0 ≤ b ∧ b < H 0 0
  · rw [bI_t cb] at a1
    by_cases cw : 0 ≤ w ∧ w ≤ 4
    · rw [bI_t cw] at a2
      rw [if_pos ⟨cb, cw⟩]
      obtain ⟨k, rfl⟩ : ∃ k : Nat, b = (k : Int) := ⟨b.toNat, by omega⟩
      rw [Int.toNat_natCast]
      unfold mealR
      rw [meals_N, numF_2, asc_dsc gd_4]
      have dr := dsc_r (gd := gdN (stoN H) (feS (clR rc) (H 1 k) (H 2 k) k (H 0 1)) (fun y => tunedS (lsR 2 rc 9) (H 1 k) (H 2 k) y) (H 3 k)) (cn := suN) gd_4 (List.range' 0 625)
      obtain ⟨r1, X1, hS, G', hr, hX, q⟩ := E167 (d := d) (X := hp N L B G) (z1 := (k : Int)) (z2 := w) (Q := fun r1 X1 => ∃ G', r1 = some (vI (if (dscN (gdN (stoN H) (feS (clR rc) (H 1 k) (H 2 k) k (H 0 1)) (fun y => tunedS (lsR 2 rc 9) (H 1 k) (H 2 k) y) (H 3 k)) suN (List.range' 0 625)).1 < 0 then -5 else if w = 0 then (dscN (gdN (stoN H) (feS (clR rc) (H 1 k) (H 2 k) k (H 0 1)) (fun y => tunedS (lsR 2 rc 9) (H 1 k) (H 2 k) y) (H 3 k)) suN (List.range' 0 625)).2 else (((dgN (dscN (gdN (stoN H) (feS (clR rc) (H 1 k) (H 2 k) k (H 0 1)) (fun y => tunedS (lsR 2 rc 9) (H 1 k) (H 2 k) y) (H 3 k)) suN (List.range' 0 625)).1.toNat).getD (w - 1).toNat 0 : Nat) : Int))) ∧ X1 = hp N L B G' ∧ mv G' H ∧ G' 82 26 = 99999 ∧ mq G G') (by omega) (by
        simp (disch := omega) only [s167_0, s167_1, s167_5, s167_5b, s167_8, s167_9, s167_10, s167_11, s167_15, s167_15b, s167_18, s167_19, s167_20, s167_21, s167_22, s167_23, s167_25, s167_28, Int.toNat_natCast, Int.toNat_natCast, Nat.reduceAdd, Nat.reduceMul, Int.reduceToNat, Int.reduceAdd, Int.reduceLT, Int.reduceLE, Int.reduceEq, Int.reduceNeg, Int.reduceMul, Int.reduceSub, Nat.reduceSub, reduceIte, ite_true, ite_false, and_true, true_and, and_self, m167_2 a1, m167_12 a2]
        refine lp167 (d := d - 1) (by omega) (by omega) hea 625 G .null .null (Nat.le_refl _) h0 hM (mq_r G) rfl rfl (fun G' x y q1 q2 q3 hx hy => ?_)
        generalize dscN (gdN (stoN H) (feS (clR rc) (H 1 k) (H 2 k) k (H 0 1)) (fun y => tunedS (lsR 2 rc 9) (H 1 k) (H 2 k) y) (H 3 k)) suN (List.range' 0 625) = o at dr ⊢
        rcases dr with ⟨p1, p2⟩ | ⟨m, p1, p2, p3, p4⟩
        · rw [p1, p2, if_pos (by decide)]
          simp (disch := first | omega | assumption) only [s167_99, s167_100, s167_103, s167_105, Int.toNat_natCast, Int.toNat_natCast, Nat.reduceAdd, Nat.reduceMul, Int.reduceToNat, Int.reduceAdd, Int.reduceLT, Int.reduceLE, Int.reduceEq, Int.reduceNeg, Int.reduceMul, Int.reduceSub, Nat.reduceSub, reduceIte, ite_true, ite_false, and_true, true_and, and_self]
          exact ⟨G', rfl, q1, q2, q3⟩
        · have hm625 : m < 625 := by rw [List.mem_range'_1] at p1; omega
          have okm : okN (stoN H) m = true := by unfold gdN at p4; rw [Bool.and_eq_true] at p4; exact p4.1
          have hsto : ∀ j, j < 4 → G' 87 j = (stoN H j : Int) := fun j hj => by
            rw [q1.2.2.2.2.2.2.2 j hj]; have := ho.2.2.2.2.2.1 j hj; unfold stoN; omega
          have hsto2 : ∀ j, j < 4 → stoN H j ≤ 99 := fun j hj => by have := ho.2.2.2.2.2.1 j hj; unfold stoN; omega
          obtain ⟨G1, h165, d1, f1⟩ := sp165 (d := d - 1) (m := m) (N := N) (L := L) (B := B) (by omega) hm625 hsto hsto2
          rw [if_pos okm] at h165
          have v1 := mv_f q1 (fun a _ _ => f1 a (by omega))
          have qq : mq G' G1 := ⟨fun a _ _ _ w => f1 a (by omega), fun k _ _ _ _ _ => by rw [f1 82 (by omega)]⟩
          have hM1 : G1 82 26 = 99999 := by rw [f1 82 (by omega)]; exact q2
          rw [p2, p3, if_neg (by omega), Int.toNat_natCast]
          have n0 : ¬ (m : Int) < 0 := by omega
          have hsu : suN m ≤ 4 := (okN_iff.mp okm).2.2.2.2
          by_cases c0 : w = 0
          · rw [if_pos c0]
            have c0' := eq_true c0
            simp (disch := first | omega | assumption) only [s167_99, s167_100, s167_103, s167_105, s167_106, s167_107, s167_111, s167_113, s167_114, s167_114b, s167_117, s167_119, s167_122, m167_123, s167_126, s167_127, s167_128, m167_129, s167_130, Int.toNat_natCast, Int.toNat_natCast, Nat.reduceAdd, Nat.reduceMul, Int.reduceToNat, Int.reduceAdd, Int.reduceLT, Int.reduceLE, Int.reduceEq, Int.reduceNeg, Int.reduceMul, Int.reduceSub, Nat.reduceSub, reduceIte, ite_true, ite_false, and_true, true_and, and_self, n0, m167_108 h165, c0', if_true]
            exact ⟨G1, rfl, v1, hM1, mq_t q3 qq⟩
          · rw [if_neg c0]
            have c0' := eq_false c0
            have dd := d1 okm (w - 1).toNat (by omega)
            simp (disch := first | omega | assumption) only [s167_99, s167_100, s167_103, s167_105, s167_106, s167_107, s167_111, s167_113, s167_114, s167_114b, s167_117, s167_119, s167_122, m167_123, s167_126, s167_127, s167_128, m167_129, s167_130, Int.toNat_natCast, Int.toNat_natCast, Nat.reduceAdd, Nat.reduceMul, Int.reduceToNat, Int.reduceAdd, Int.reduceLT, Int.reduceLE, Int.reduceEq, Int.reduceNeg, Int.reduceMul, Int.reduceSub, Nat.reduceSub, reduceIte, ite_true, ite_false, and_true, true_and, and_self, n0, m167_108 h165, c0', if_false, dd]
            exact ⟨G1, rfl, v1, hM1, mq_t q3 qq⟩)
      refine ⟨G', ?_, q⟩
      rw [hr, hX] at hS
      by_cases c : (dscN (gdN (stoN H) (feS (clR rc) (H 1 k) (H 2 k) k (H 0 1)) (fun y => tunedS (lsR 2 rc 9) (H 1 k) (H 2 k) y) (H 3 k)) suN (List.range' 0 625)).1 < 0
      · rw [if_pos c] at hS ⊢
        exact hS
      · rw [if_neg c] at hS ⊢
        rcases dr with ⟨p1, p2⟩ | ⟨m, p1, p2, p3, p4⟩
        · exact absurd p1 (by omega)
        · have e5 : ((-5 : Int) < 0 ∨ (dscN (gdN (stoN H) (feS (clR rc) (H 1 k) (H 2 k) k (H 0 1)) (fun y => tunedS (lsR 2 rc 9) (H 1 k) (H 2 k) y) (H 3 k)) suN (List.range' 0 625)).2 ≤ -5) := Or.inl (by decide)
          rw [if_pos e5, if_neg (by rw [p3]; simp only []; omega)]
          exact hS
    · rw [bI_f cw] at a2
      rw [if_neg (fun e => cw e.2)]
      refine ⟨G, ?_, hv, hM, mq_r G⟩
      refine e167 (by omega) ?_
      simp (disch := omega) only [s167_0, s167_1, s167_5, s167_5b, s167_8, s167_9, s167_10, s167_11, s167_15, s167_15b, s167_18, s167_19, Int.toNat_natCast, Int.toNat_natCast, Nat.reduceAdd, Nat.reduceMul, Int.reduceToNat, Int.reduceAdd, Int.reduceLT, Int.reduceLE, Int.reduceEq, Int.reduceNeg, Int.reduceMul, Int.reduceSub, Nat.reduceSub, reduceIte, ite_true, ite_false, and_true, true_and, and_self, m167_2 a1, m167_12 a2]
  · rw [bI_f cb] at a1
    rw [if_neg (fun e => cb e.1)]
    refine ⟨G, ?_, hv, hM, mq_r G⟩
    refine e167 (by omega) ?_
    simp (disch := omega) only [s167_0, s167_1, s167_5, s167_5b, s167_8, s167_9, s167_10, s167_11, s167_15, s167_15b, s167_18, s167_19, Int.toNat_natCast, Int.toNat_natCast, Nat.reduceAdd, Nat.reduceMul, Int.reduceToNat, Int.reduceAdd, Int.reduceLT, Int.reduceLE, Int.reduceEq, Int.reduceNeg, Int.reduceMul, Int.reduceSub, Nat.reduceSub, reduceIte, ite_true, ite_false, and_true, true_and, and_self, m167_2 a1]
