/-! the model: dear, towers, odds, mean -/
theorem lp169 {d b N L : Nat} {the : Int} {rc : List (Int × Int × List Int)} {B : q_Bv} {H : q_Gi} (hd : 4 ≤ d) (hb : b < 6) {Q : Option Value → q_H → Prop} : ∀ (m k fo : Nat) (G : q_Gi), k + m = 4 → fo < 4 → ms G H the rc → (∀ G' : q_Gi, mv G' H → (∀ a, a ≠ 97 → G' a = G a) → Q (some (vI (dearS (clR rc) H b m k fo (fillS (clR rc) H b fo (H 3 b))))) (hp N L B G')) → WP d 169 14 [.ref 82, vI b, vI fo, vI k] [] (hp N L B G) Q := by
  intro m
  induction m with
  | zero =>
    intro k fo G hk hfo h hQ
    have h1 : ¬ (k : Int) < 4 := by omega
    have := hQ G h.1 (fun _ _ => rfl)
    simp (disch := omega) only [s169_14, s169_15, s169_16, s169_19, s169_20, s169_21, s169_25, s169_26, s169_27, s169_31, s169_34, s169_35, s169_36, s169_39, s169_42, s169_43, Int.toNat_natCast, Int.toNat_natCast, Nat.reduceAdd, Nat.reduceMul, Int.reduceToNat, Int.reduceAdd, Int.reduceLT, Int.reduceLE, Int.reduceEq, Int.reduceNeg, Int.reduceMul, Int.reduceSub, Nat.reduceSub, reduceIte, ite_true, ite_false, and_true, true_and, and_self, h1]
    exact this
  | succ m ih =>
    intro k fo G hk hfo h hQ
    have h1 : (k : Int) < 4 := by omega
    obtain ⟨G1, s1, f1⟩ := sp144 (d := d) (b := b) (f := k) (N := N) (L := L) (B := B) hd h.1 h.2.1 hb (by omega) h.2.2.1 h.2.2.2
    have v1 := mv_f h.1 (fun a _ _ => f1 a (by omega))
    have ms1 := ms_mq h (mq_97 f1) v1 h.2.1
    obtain ⟨G2, s2, f2⟩ := sp144 (d := d) (b := b) (f := fo) (N := N) (L := L) (B := B) hd ms1.1 ms1.2.1 hb hfo ms1.2.2.1 ms1.2.2.2
    have v2 := mv_f v1 (fun a _ _ => f2 a (by omega))
    have ms2 := ms_mq ms1 (mq_97 f2) v2 h.2.1
    have r1 := fillS_r (f := H 3 b) (e := k) (clR_k h.2.2.2) h.2.1 hb (by omega)
    have r2 := fillS_r (f := H 3 b) (e := fo) (clR_k h.2.2.2) h.2.1 hb hfo
    have e0 : dearS (clR rc) H b (m + 1) k fo (fillS (clR rc) H b fo (H 3 b)) = if fillS (clR rc) H b fo (H 3 b) < fillS (clR rc) H b k (H 3 b) then dearS (clR rc) H b m (k + 1) k (fillS (clR rc) H b k (H 3 b)) else dearS (clR rc) H b m (k + 1) fo (fillS (clR rc) H b fo (H 3 b)) := rfl
    rw [e0] at hQ
    rw [s169_14]
    by_cases c : fillS (clR rc) H b fo (H 3 b) < fillS (clR rc) H b k (H 3 b)
    · rw [if_pos c] at hQ
      have := ih (k + 1) k G2 (by omega) (by omega) ms2 (fun G' q1 q2 => hQ G' q1 (fun a ha => by rw [q2 a ha, f2 a ha, f1 a ha]))
      simp (disch := omega) only [s169_15, s169_16, s169_19, s169_20, s169_21, s169_25, s169_26, s169_27, s169_31, s169_34, s169_35, s169_36, s169_39, Int.toNat_natCast, Int.toNat_natCast, Nat.reduceAdd, Nat.reduceMul, Int.reduceToNat, Int.reduceAdd, Int.reduceLT, Int.reduceLE, Int.reduceEq, Int.reduceNeg, Int.reduceMul, Int.reduceSub, Nat.reduceSub, reduceIte, ite_true, ite_false, and_true, true_and, and_self, h1, m169_22 s1, m169_28 s2, c]
      exact this
    · rw [if_neg c] at hQ
      have := ih (k + 1) fo G2 (by omega) hfo ms2 (fun G' q1 q2 => hQ G' q1 (fun a ha => by rw [q2 a ha, f2 a ha, f1 a ha]))
      simp (disch := omega) only [s169_15, s169_16, s169_19, s169_20, s169_21, s169_25, s169_26, s169_27, s169_31, s169_34, s169_35, s169_36, s169_39, Int.toNat_natCast, Int.toNat_natCast, Nat.reduceAdd, Nat.reduceMul, Int.reduceToNat, Int.reduceAdd, Int.reduceLT, Int.reduceLE, Int.reduceEq, Int.reduceNeg, Int.reduceMul, Int.reduceSub, Nat.reduceSub, reduceIte, ite_true, ite_false, and_true, true_and, and_self, h1, m169_22 s1, m169_28 s2, c]
      exact this
theorem sp169 {d N L : Nat} {the b : Int} {rc : List (Int × Int × List Int)} {B : q_Bv} {G H : q_Gi} (hd : 8 ≤ d) (h : ms G H the rc) (hb : -2147483648 ≤ b ∧ b ≤ 2147483647) : ∃ G', Sp d 169 [.ref 82, vI b] (hp N L B G) (some (vI (r70 (clR rc) H b))) (hp N L B G') ∧ mv G' H ∧ mq G G' := by
  have h0 := h
  obtain ⟨hv, ho, h9, hm⟩ := h
  have v0 := hv.1
  have hb6 := ho.1
  have a1 := sp113 (d := d - 1) (z := b) (N := N) (L := L) (B := B) (G := G) (by omega) hb (by rw [v0]; exact ho.1)
  rw [v0] at a1
  unfold r70
  by_cases cb : 0 ≤ b ∧ b < H 0 0
  · rw [if_pos cb]
    rw [bI_t cb] at a1
    obtain ⟨n, rfl⟩ : ∃ n : Nat, b = (n : Int) := ⟨b.toNat, by omega⟩
    rw [Int.toNat_natCast]
    have r0 := fillS_r (f := H 3 n) (e := 0) (clR_k hm) ho (show n < 6 by omega) (by omega)
    have er : dearS (clR rc) H n 4 0 0 (-1) = dearS (clR rc) H n 3 1 ((0 : Nat) : Int) (fillS (clR rc) H n 0 (H 3 n)) := by
      rw [show dearS (clR rc) H n 4 0 0 (-1) = if -1 < fillS (clR rc) H n 0 (H 3 n) then dearS (clR rc) H n 3 1 ((0 : Nat) : Int) (fillS (clR rc) H n 0 (H 3 n)) else dearS (clR rc) H n 3 1 0 (-1) from rfl, if_pos (by omega)]
    rw [er]
    obtain ⟨r1, X1, hS, G', hr, hX, q⟩ := E169 (d := d) (X := hp N L B G) (z1 := (n : Int)) (Q := fun r1 X1 => ∃ G', r1 = some (vI (dearS (clR rc) H n 3 1 ((0 : Nat) : Int) (fillS (clR rc) H n 0 (H 3 n)))) ∧ X1 = hp N L B G' ∧ mv G' H ∧ mq G G') (by omega) (by
      simp (disch := omega) only [s169_0, s169_1, s169_5, s169_5b, s169_8, s169_9, s169_10, s169_11, s169_12, s169_13, Int.toNat_natCast, Int.toNat_natCast, Nat.reduceAdd, Nat.reduceMul, Int.reduceToNat, Int.reduceAdd, Int.reduceLT, Int.reduceLE, Int.reduceEq, Int.reduceNeg, Int.reduceMul, Int.reduceSub, Nat.reduceSub, reduceIte, ite_true, ite_false, and_true, true_and, and_self, m169_2 a1]
      exact lp169 (d := d - 1) (by omega) (by omega) 3 1 0 G rfl (by omega) h0 (fun G' q1 q2 => ⟨G', rfl, rfl, q1, mq_97 q2⟩))
    exact ⟨G', by rw [hr, hX] at hS; exact hS, q⟩
  · rw [if_neg cb]
    rw [bI_f cb] at a1
    refine ⟨G, ?_, hv, mq_r G⟩
    refine e169 (by omega) ?_
    simp (disch := omega) only [s169_0, s169_1, s169_5, s169_5b, s169_8, s169_9, s169_10, s169_11, s169_12, s169_13, s169_14, s169_15, s169_16, s169_19, s169_20, s169_21, s169_25, s169_26, s169_27, s169_31, s169_34, s169_35, s169_36, s169_39, s169_42, s169_43, Int.toNat_natCast, Int.toNat_natCast, Nat.reduceAdd, Nat.reduceMul, Int.reduceToNat, Int.reduceAdd, Int.reduceLT, Int.reduceLE, Int.reduceEq, Int.reduceNeg, Int.reduceMul, Int.reduceSub, Nat.reduceSub, reduceIte, ite_true, ite_false, and_true, true_and, and_self, m169_2 a1]
/-! the greatest common divisor -/
theorem lp178 {d : Nat} {a b : Int} {X : q_H} : ∀ (m p q : Nat) (x : Value), q ≤ m → p ≤ 1000000 → q ≤ 1000000 → nL x = true → WP d 178 5 [.ref 82, vI a, vI b, vI p, vI q, x] [] X (fun r1 X1 => r1 = some (vI (Nat.gcd p q : Int)) ∧ X1 = X) := by
  intro m
  induction m with
  | zero =>
    intro p q x h1 h2 h3 hx
    obtain rfl : q = 0 := by omega
    rw [Nat.gcd_zero_right]
    simp (disch := first | omega | assumption) only [s178_5, s178_7, s178_7b, s178_10, s178_11, s178_13, s178_14, s178_16, s178_18, s178_19, s178_21, s178_23, s178_26, s178_27, Int.toNat_natCast, Int.toNat_natCast, Nat.reduceAdd, Nat.reduceMul, Int.reduceToNat, Int.reduceAdd, Int.reduceLT, Int.reduceLE, Int.reduceEq, Int.reduceNeg, Int.reduceMul, Int.reduceSub, Nat.reduceSub, reduceIte, ite_true, ite_false, and_true, true_and, and_self, show ((0 : Nat) : Int) = 0 from rfl]
  | succ m ih =>
    intro p q x h1 h2 h3 hx
    by_cases h0 : q = 0
    · subst h0
      rw [Nat.gcd_zero_right]
      simp (disch := first | omega | assumption) only [s178_5, s178_7, s178_7b, s178_10, s178_11, s178_13, s178_14, s178_16, s178_18, s178_19, s178_21, s178_23, s178_26, s178_27, Int.toNat_natCast, Int.toNat_natCast, Nat.reduceAdd, Nat.reduceMul, Int.reduceToNat, Int.reduceAdd, Int.reduceLT, Int.reduceLE, Int.reduceEq, Int.reduceNeg, Int.reduceMul, Int.reduceSub, Nat.reduceSub, reduceIte, ite_true, ite_false, and_true, true_and, and_self, show ((0 : Nat) : Int) = 0 from rfl]
    · have h4 : ¬ (q : Int) = 0 := by omega
      have hl := Nat.mod_lt p (show 0 < q by omega)
      have e : (p : Int) % (q : Int) = ((p % q : Nat) : Int) := rfl
      have er := Int.tmod_eq_emod_of_nonneg (a := (p : Int)) (b := (q : Int)) (by omega)
      have := ih q (p % q) (vI ((p % q : Nat) : Int)) (by omega) h3 (by omega) rfl
      rw [show Nat.gcd q (p % q) = Nat.gcd p q by rw [Nat.gcd_comm p q, Nat.gcd_rec q p, Nat.gcd_comm]] at this
      rw [s178_5]
      simp (disch := first | omega | assumption) only [s178_7, s178_7b, s178_10, s178_11, s178_13, s178_14, s178_16, s178_18, s178_19, s178_21, s178_23, Int.toNat_natCast, Int.toNat_natCast, Nat.reduceAdd, Nat.reduceMul, Int.reduceToNat, Int.reduceAdd, Int.reduceLT, Int.reduceLE, Int.reduceEq, Int.reduceNeg, Int.reduceMul, Int.reduceSub, Nat.reduceSub, reduceIte, ite_true, ite_false, and_true, true_and, and_self, h4, e]
      exact this
theorem sp178 {d a b : Nat} {X : q_H} (hd : 1 ≤ d) (ha : a ≤ 1000000) (hb : b ≤ 1000000) : Sp d 178 [.ref 82, vI a, vI b] X (some (vI (Nat.gcd a b : Int))) X := by
  refine e178 (by omega) ?_
  simp (disch := omega) only [s178_0, s178_1, s178_2, s178_3, Int.toNat_natCast, Int.toNat_natCast, Nat.reduceAdd, Nat.reduceMul, Int.reduceToNat, Int.reduceAdd, Int.reduceLT, Int.reduceLE, Int.reduceEq, Int.reduceNeg, Int.reduceMul, Int.reduceSub, Nat.reduceSub, reduceIte, ite_true, ite_false, and_true, true_and, and_self]
  exact lp178 (d := d - 1) b a b .null (Nat.le_refl _) ha hb rfl
theorem sp179 {d a b : Nat} {p : Int} {N L : Nat} {B : q_Bv} {G : q_Gi} (hd : 2 ≤ d) (ha : a ≤ 100000) (hb : 0 < b ∧ b ≤ 100000) (hp' : p = 0 ∨ p = 1) : Sp d 179 [.ref 82, vI a, vI b, vI p] (hp N L B G) (some (vL (fracS a b p))) (hp N L B G) := by
  have h178 := sp178 (d := d - 1) (a := a) (b := b) (X := hp N L B G) (by omega) (by omega) (by omega)
  have hg : 0 < Nat.gcd a b := Nat.gcd_pos_of_pos_right a (by omega)
  have hg2 : Nat.gcd a b ≤ b := Nat.le_of_dvd (by omega) (Nat.gcd_dvd_right a b)
  have q1 := Nat.div_le_self a (Nat.gcd a b)
  have q2 := Nat.div_le_self b (Nat.gcd a b)
  have e1 : (a : Int) / (Nat.gcd a b : Int) = ((a / Nat.gcd a b : Nat) : Int) := rfl
  have e2 : (b : Int) / (Nat.gcd a b : Int) = ((b / Nat.gcd a b : Nat) : Int) := rfl
  have r1 : -2147483648 ≤ ((a / Nat.gcd a b : Nat) : Int) ∧ ((a / Nat.gcd a b : Nat) : Int) ≤ 2147483647 := by
    clear e1 e2
    generalize a / Nat.gcd a b = x at q1
    omega
  have r2 : -2147483648 ≤ ((b / Nat.gcd a b : Nat) : Int) ∧ ((b / Nat.gcd a b : Nat) : Int) ≤ 2147483647 := by
    clear e1 e2 r1
    generalize b / Nat.gcd a b = x at q2
    omega
  refine e179 (by omega) ?_
  unfold fracS
  rw [if_neg (by omega)]
  rcases hp' with rfl | rfl
  · rw [if_pos rfl]
    simp (disch := first | omega | assumption) only [s179_0, s179_1, s179_2, s179_6, s179_8, s179_9, s179_9b, s179_12, s179_13, s179_15, s179_16, s179_17, s179_20, s179_21, s179_23, s179_24, s179_25, Int.toNat_natCast, Int.toNat_natCast, Nat.reduceAdd, Nat.reduceMul, Int.reduceToNat, Int.reduceAdd, Int.reduceLT, Int.reduceLE, Int.reduceEq, Int.reduceNeg, Int.reduceMul, Int.reduceSub, Nat.reduceSub, reduceIte, ite_true, ite_false, and_true, true_and, and_self, m179_3 h178, e1]
  · rw [if_neg (by decide)]
    simp (disch := first | omega | assumption) only [s179_0, s179_1, s179_2, s179_6, s179_8, s179_9, s179_9b, s179_12, s179_13, s179_15, s179_16, s179_17, s179_20, s179_21, s179_23, s179_24, s179_25, Int.toNat_natCast, Int.toNat_natCast, Nat.reduceAdd, Nat.reduceMul, Int.reduceToNat, Int.reduceAdd, Int.reduceLT, Int.reduceLE, Int.reduceEq, Int.reduceNeg, Int.reduceMul, Int.reduceSub, Nat.reduceSub, reduceIte, ite_true, ite_false, and_true, true_and, and_self, m179_3 h178, e2]
