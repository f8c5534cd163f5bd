/-! the model: a MEAL is eaten -/
def eatR (cl : List (Int × List Int)) (b e : Nat) : Nat → q_Gi → q_Gi
  | 0, H => H
  | n + 1, H => eatR cl b e n (eatS cl b e H)
theorem eat_5 {cl : List (Int × List Int)} {b e k : Nat} {H : q_Gi} : eatS cl b e H 5 k = if k = e then H 5 e - 1 else H 5 k := by unfold eatS; simp
theorem eat_3 {cl : List (Int × List Int)} {b e : Nat} {H : q_Gi} : eatS cl b e H 3 b = min 99 (H 3 b + fillS cl H b e (H 3 b)) := by unfold eatS; simp
theorem eatR_k {cl : List (Int × List Int)} {b e : Nat} (hc : clOK cl) (hb : b < 6) (he : e < 4) : ∀ (n : Nat) (H : q_Gi), Hok H → (n : Int) ≤ H 5 e → H 0 2 + (n : Int) ≤ 200000 → Hok (eatR cl b e n H) ∧ sameK (eatR cl b e n H) H ∧ eatR cl b e n H 0 1 = H 0 1 ∧ eatR cl b e n H 0 2 = H 0 2 + (n : Int) ∧ (∀ k, k ≠ e → eatR cl b e n H 5 k = H 5 k) ∧ eatR cl b e n H 3 b = itI (feS cl (H 1 b) (H 2 b) b (H 0 1) e) n (H 3 b) := by
  intro n
  induction n with
  | zero => intro H ho _ _; exact ⟨ho, sameK_r H, rfl, by rw [show ((0 : Nat) : Int) = 0 from rfl, Int.add_zero]; rfl, fun _ _ => rfl, rfl⟩
  | succ n ih =>
    intro H ho h5 h2
    have ok1 := eatS_k hc ho hb he (by omega) (by omega)
    have s1 := sameK_eat cl b e H
    have e1 : eatS cl b e H 0 1 = H 0 1 := rfl
    have e2 : eatS cl b e H 0 2 = H 0 2 + 1 := rfl
    have e5 := @eat_5 cl b e e H
    rw [if_pos rfl] at e5
    obtain ⟨q1, q2, q3, q4, q5, q6⟩ := ih (eatS cl b e H) ok1 (by omega) (by omega)
    refine ⟨q1, sameK_t q2 s1, q3.trans e1, ?_, fun k hk => ?_, ?_⟩
    · show eatR cl b e n (eatS cl b e H) 0 2 = _
      rw [q4, e2]; omega
    · show eatR cl b e n (eatS cl b e H) 5 k = _
      rw [q5 k hk, eat_5, if_neg hk]
    · show eatR cl b e n (eatS cl b e H) 3 b = _
      rw [q6, s1.2.1, s1.2.2.1, e1, eat_3]
      have comm : ∀ (f : Int → Int) (x : Int) (n : Nat), itI f n (f x) = itI f (n + 1) x := by
        intro f x n
        induction n with
        | zero => rfl
        | succ n ih => show f (itI f n (f x)) = f (itI f (n + 1) x); rw [ih]
      exact comm (feS cl (H 1 b) (H 2 b) b (H 0 1) e) (H 3 b) n
theorem lp166i {d b e N L : Nat} {the : Int} {rc : List (Int × Int × List Int)} {B : q_Bv} {G0 : q_Gi} {D : Nat} (hd : 5 ≤ d) (hb : b < 6) (he : e < 4) (hD : G0 100 e = (D : Int)) (hD5 : D ≤ 5) (hM : G0 82 26 = 2000000000) {Q : Option Value → q_H → Prop} : ∀ (m k : Nat) (G H : q_Gi), k + m = D → ms G H the rc → mf G0 G → (m : Int) ≤ H 5 e → H 0 2 + (m : Int) ≤ 200000 → (∀ G' : q_Gi, mv G' (eatR (clR rc) b e m H) → mf G0 G' → WP d 166 31 [.ref 82, vI b, vI e, vI D] [] (hp N L B G') Q) → WP d 166 9 [.ref 82, vI b, vI e, vI k] [] (hp N L B G) Q := by
  intro m
  induction m with
  | zero =>
    intro k G H hk h hfr h5 h2 hQ
    obtain rfl : k = D := by omega
    have c0 : G 100 e = (k : Int) := by rw [hfr.1 100 (by omega) (by omega) (by omega) (by omega), hD]
    have h1 : ¬ (k : Int) < (k : Int) := by omega
    have := hQ G h.1 hfr
    simp (disch := omega) only [s166_9, s166_10, m166_11, s166_14, m166_15, s166_16, Int.toNat_natCast, Int.toNat_natCast, Nat.reduceAdd, Nat.reduceMul, Int.reduceToNat, Int.reduceAdd, Int.reduceLT, Int.reduceLE, Int.reduceEq, Int.reduceNeg, Int.reduceMul, Int.reduceSub, Nat.reduceSub, reduceIte, ite_true, ite_false, and_true, true_and, and_self, c0, h1]
    exact this
  | succ m ih =>
    intro k G H hk h hfr h5 h2 hQ
    have c0 : G 100 e = (D : Int) := by rw [hfr.1 100 (by omega) (by omega) (by omega) (by omega), hD]
    have h1 : (k : Int) < (D : Int) := by omega
    obtain ⟨G1, h153, v1, f1⟩ := sp153 (d := d) (b := b) (e := e) (M := 2000000000) (N := N) (L := L) (B := B) hd h.1 h.2.1 hb he h.2.2.1 h.2.2.2 (by rw [hfr.2 26 (by omega) (by omega)]; exact hM) (by omega) (by omega)
    rw [eatM_s (by omega)] at v1
    have hok := eatS_k (clR_k h.2.2.2) h.2.1 hb he (by omega) (by omega)
    have e5 := @eat_5 (clR rc) b e e H
    rw [if_pos rfl] at e5
    have e2 : eatS (clR rc) b e H 0 2 = H 0 2 + 1 := rfl
    have := ih (k + 1) G1 _ (by omega) (ms_mf h f1 v1 hok) (mf_t hfr f1) (by omega) (by omega) hQ
    rw [s166_9]
    simp (disch := omega) only [s166_10, m166_11, s166_14, m166_15, s166_16, s166_19, s166_20, s166_21, s166_25, s166_28, Int.toNat_natCast, Int.toNat_natCast, Nat.reduceAdd, Nat.reduceMul, Int.reduceToNat, Int.reduceAdd, Int.reduceLT, Int.reduceLE, Int.reduceEq, Int.reduceNeg, Int.reduceMul, Int.reduceSub, Nat.reduceSub, reduceIte, ite_true, ite_false, and_true, true_and, and_self, c0, h1, m166_22 h153]
    exact this
def eatD (cl : List (Int × List Int)) (b : Nat) (m : Nat) (H : q_Gi) : q_Gi := eatR cl b 3 (m % 5) (eatR cl b 2 (m / 5 % 5) (eatR cl b 1 (m / 5 / 5 % 5) (eatR cl b 0 (m / 5 / 5 / 5 % 5) H)))
/-- how full after the MEAL m -/
def fiN (fe : Nat → Int → Int) (m : Nat) (x : Int) : Int := itI (fe 3) (m % 5) (itI (fe 2) (m / 5 % 5) (itI (fe 1) (m / 5 / 5 % 5) (itI (fe 0) (m / 5 / 5 / 5 % 5) x)))
theorem sp166 {d b m N L : Nat} {the : Int} {rc : List (Int × Int × List Int)} {B : q_Bv} {G H : q_Gi} (hd : 6 ≤ d) (h : ms G H the rc) (hb : b < 6) (hM : G 82 26 = 2000000000) (hea : H 0 2 ≤ 99999) (ho : okN (stoN H) m = true) (hdi : ∀ j, j < 4 → G 100 j = (((dgN m).getD j 0 : Nat) : Int)) : ∃ G', Sp d 166 [.ref 82, vI b] (hp N L B G) none (hp N L B G') ∧ mv G' (eatD (clR rc) b m H) ∧ mf G G' ∧ Hok (eatD (clR rc) b m H) ∧ sameK (eatD (clR rc) b m H) H ∧ eatD (clR rc) b m H 3 b = fiN (feS (clR rc) (H 1 b) (H 2 b) b (H 0 1)) m (H 3 b) := by
  obtain ⟨o0, o1, o2, o3, os⟩ := okN_iff.mp ho
  have hok := h.2.1
  have t0 := hok.2.2.2.2.2.1 0 (by decide)
  have t1 := hok.2.2.2.2.2.1 1 (by decide)
  have t2 := hok.2.2.2.2.2.1 2 (by decide)
  have t3 := hok.2.2.2.2.2.1 3 (by decide)
  have hc := clR_k h.2.2.2
  have x0 : G 100 0 = ((m / 5 / 5 / 5 % 5 : Nat) : Int) := hdi 0 (by decide)
  have x1 : G 100 1 = ((m / 5 / 5 % 5 : Nat) : Int) := hdi 1 (by decide)
  have x2 : G 100 2 = ((m / 5 % 5 : Nat) : Int) := hdi 2 (by decide)
  have x3 : G 100 3 = ((m % 5 : Nat) : Int) := hdi 3 (by decide)
  unfold stoN at o0 o1 o2 o3
  unfold eatD fiN
  generalize m / 5 / 5 / 5 % 5 = d0 at *
  generalize m / 5 / 5 % 5 = d1 at *
  generalize m / 5 % 5 = d2 at *
  generalize m % 5 = d3 at *
  obtain ⟨a1, a2, a3, a4, a5, a6⟩ := eatR_k (b := b) (e := 0) hc hb (by decide) d0 H hok (by omega) (by omega)
  obtain ⟨b1, b2, b3, b4, b5, b6⟩ := eatR_k (b := b) (e := 1) hc hb (by decide) d1 (eatR (clR rc) b 0 d0 H) a1 (by rw [a5 1 (by decide)]; omega) (by omega)
  obtain ⟨c1, c2, c3, c4, c5, c6⟩ := eatR_k (b := b) (e := 2) hc hb (by decide) d2 (eatR (clR rc) b 1 d1 (eatR (clR rc) b 0 d0 H)) b1 (by rw [b5 2 (by decide), a5 2 (by decide)]; omega) (by omega)
  obtain ⟨g1, g2, g3, g4, g5, g6⟩ := eatR_k (b := b) (e := 3) hc hb (by decide) d3 (eatR (clR rc) b 2 d2 (eatR (clR rc) b 1 d1 (eatR (clR rc) b 0 d0 H))) c1 (by rw [c5 3 (by decide), b5 3 (by decide), a5 3 (by decide)]; omega) (by omega)
  have fin : eatR (clR rc) b 3 d3 (eatR (clR rc) b 2 d2 (eatR (clR rc) b 1 d1 (eatR (clR rc) b 0 d0 H))) 3 b = itI (feS (clR rc) (H 1 b) (H 2 b) b (H 0 1) 3) d3 (itI (feS (clR rc) (H 1 b) (H 2 b) b (H 0 1) 2) d2 (itI (feS (clR rc) (H 1 b) (H 2 b) b (H 0 1) 1) d1 (itI (feS (clR rc) (H 1 b) (H 2 b) b (H 0 1) 0) d0 (H 3 b)))) := by
    rw [g6, c6, b6, a6, c2.2.1, b2.2.1, a2.2.1, c2.2.2.1, b2.2.2.1, a2.2.2.1, c3, b3, a3]
  obtain ⟨r1, X1, hS, G', hr, hX, q1, q2⟩ := E166 (d := d) (X := hp N L B G) (z1 := (b : Int)) (Q := fun r1 X1 => ∃ G', r1 = none ∧ X1 = hp N L B G' ∧ mv G' (eatR (clR rc) b 3 d3 (eatR (clR rc) b 2 d2 (eatR (clR rc) b 1 d1 (eatR (clR rc) b 0 d0 H)))) ∧ mf G G') (by omega) (by
    have i0 := lp166i (d := d - 1) (b := b) (e := 0) (D := d0) (N := N) (L := L) (B := B) (G0 := G) (the := the) (rc := rc) (Q := fun r1 X1 => ∃ G', r1 = none ∧ X1 = hp N L B G' ∧ mv G' (eatR (clR rc) b 3 d3 (eatR (clR rc) b 2 d2 (eatR (clR rc) b 1 d1 (eatR (clR rc) b 0 d0 H)))) ∧ mf G G') (by omega) hb (by decide) x0 (by omega) hM d0 0 G H (by omega) h (mf_r G) (by omega) (by omega) (fun G1 v1 f1 => by
      have ms1 := ms_mf h f1 v1 a1
      have i1 := lp166i (d := d - 1) (b := b) (e := 1) (D := d1) (N := N) (L := L) (B := B) (G0 := G) (the := the) (rc := rc) (Q := fun r1 X1 => ∃ G', r1 = none ∧ X1 = hp N L B G' ∧ mv G' (eatR (clR rc) b 3 d3 (eatR (clR rc) b 2 d2 (eatR (clR rc) b 1 d1 (eatR (clR rc) b 0 d0 H)))) ∧ mf G G') (by omega) hb (by decide) x1 (by omega) hM d1 0 G1 _ (by omega) ms1 f1 (by rw [a5 1 (by decide)]; omega) (by omega) (fun G2 v2 f2 => by
        have ms2 := ms_mf h f2 v2 b1
        have i2 := lp166i (d := d - 1) (b := b) (e := 2) (D := d2) (N := N) (L := L) (B := B) (G0 := G) (the := the) (rc := rc) (Q := fun r1 X1 => ∃ G', r1 = none ∧ X1 = hp N L B G' ∧ mv G' (eatR (clR rc) b 3 d3 (eatR (clR rc) b 2 d2 (eatR (clR rc) b 1 d1 (eatR (clR rc) b 0 d0 H)))) ∧ mf G G') (by omega) hb (by decide) x2 (by omega) hM d2 0 G2 _ (by omega) ms2 f2 (by rw [b5 2 (by decide), a5 2 (by decide)]; omega) (by omega) (fun G3 v3 f3 => by
          have ms3 := ms_mf h f3 v3 c1
          have i3 := lp166i (d := d - 1) (b := b) (e := 3) (D := d3) (N := N) (L := L) (B := B) (G0 := G) (the := the) (rc := rc) (Q := fun r1 X1 => ∃ G', r1 = none ∧ X1 = hp N L B G' ∧ mv G' (eatR (clR rc) b 3 d3 (eatR (clR rc) b 2 d2 (eatR (clR rc) b 1 d1 (eatR (clR rc) b 0 d0 H)))) ∧ mf G G') (by omega) hb (by decide) x3 (by omega) hM d3 0 G3 _ (by omega) ms3 f3 (by rw [c5 3 (by decide), b5 3 (by decide), a5 3 (by decide)]; omega) (by omega) (fun G4 v4 f4 => by
            simp (disch := omega) only [s166_2, s166_3, s166_4, s166_31, s166_34, s166_37, Int.toNat_natCast, Int.toNat_natCast, Nat.reduceAdd, Nat.reduceMul, Int.reduceToNat, Int.reduceAdd, Int.reduceLT, Int.reduceLE, Int.reduceEq, Int.reduceNeg, Int.reduceMul, Int.reduceSub, Nat.reduceSub, reduceIte, ite_true, ite_false, and_true, true_and, and_self, show ((3 : Nat) : Int) = 3 from rfl]
            exact ⟨G4, rfl, v4, f4⟩)
          simp (disch := omega) only [s166_2, s166_3, s166_4, s166_7, s166_8, s166_31, s166_34, Int.toNat_natCast, Int.toNat_natCast, Nat.reduceAdd, Nat.reduceMul, Int.reduceToNat, Int.reduceAdd, Int.reduceLT, Int.reduceLE, Int.reduceEq, Int.reduceNeg, Int.reduceMul, Int.reduceSub, Nat.reduceSub, reduceIte, ite_true, ite_false, and_true, true_and, and_self, show ((2 : Nat) : Int) = 2 from rfl]
          exact i3)
        simp (disch := omega) only [s166_2, s166_3, s166_4, s166_7, s166_8, s166_31, s166_34, Int.toNat_natCast, Int.toNat_natCast, Nat.reduceAdd, Nat.reduceMul, Int.reduceToNat, Int.reduceAdd, Int.reduceLT, Int.reduceLE, Int.reduceEq, Int.reduceNeg, Int.reduceMul, Int.reduceSub, Nat.reduceSub, reduceIte, ite_true, ite_false, and_true, true_and, and_self, show ((1 : Nat) : Int) = 1 from rfl]
        exact i2)
      simp (disch := omega) only [s166_2, s166_3, s166_4, s166_7, s166_8, s166_31, s166_34, Int.toNat_natCast, Int.toNat_natCast, Nat.reduceAdd, Nat.reduceMul, Int.reduceToNat, Int.reduceAdd, Int.reduceLT, Int.reduceLE, Int.reduceEq, Int.reduceNeg, Int.reduceMul, Int.reduceSub, Nat.reduceSub, reduceIte, ite_true, ite_false, and_true, true_and, and_self, show ((0 : Nat) : Int) = 0 from rfl]
      exact i1)
    simp (disch := omega) only [s166_0, s166_1, s166_2, s166_3, s166_4, s166_7, s166_8, Int.toNat_natCast, Int.toNat_natCast, Nat.reduceAdd, Nat.reduceMul, Int.reduceToNat, Int.reduceAdd, Int.reduceLT, Int.reduceLE, Int.reduceEq, Int.reduceNeg, Int.reduceMul, Int.reduceSub, Nat.reduceSub, reduceIte, ite_true, ite_false, and_true, true_and, and_self]
    exact i0)
  exact ⟨G', by rw [hr, hX] at hS; exact hS, q1, q2, g1, sameK_t g2 (sameK_t c2 (sameK_t b2 a2)), fin⟩
