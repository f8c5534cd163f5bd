/-! the model: small things, clauses, a BELL -/
def mv (G H : q_Gi) : Prop := G 82 0 = H 0 0 ∧ G 82 1 = H 0 1 ∧ G 82 2 = H 0 2 ∧ (∀ k, k < 6 → G 83 k = H 1 k) ∧ (∀ k, k < 6 → G 84 k = H 2 k) ∧ (∀ k, k < 6 → G 85 k = H 3 k) ∧ (∀ k, k < 24 → G 86 k = H 4 k) ∧ (∀ k, k < 4 → G 87 k = H 5 k)
theorem sp109 {d : Nat} {z lo hi : Int} {X : q_H} (hd : 1 ≤ d) (hz : -2147483648 ≤ z ∧ z ≤ 2147483647) (hl : -2147483648 ≤ lo ∧ lo ≤ 2147483647) (hh : -2147483648 ≤ hi ∧ hi ≤ 2147483647) : Sp d 109 [.ref 82, vI z, vI lo, vI hi] X (some (vI (bI (lo ≤ z ∧ z ≤ hi)))) X := by
  refine e109 (by omega) ?_
  simp (disch := omega) only [s109_0, s109_1, s109_2, s109_5, s109_6, s109_7, s109_10, s109_11, s109_14, s109_15, s109_15b, Int.toNat_natCast, Int.toNat_natCast, Nat.reduceAdd, Nat.reduceMul, Int.reduceToNat, Int.reduceAdd, Int.reduceLT, Int.reduceLE, Int.reduceEq, Int.reduceNeg, Int.reduceMul, Int.reduceSub, Nat.reduceSub, reduceIte, ite_true, ite_false, and_true, true_and, and_self]
  repeat' split
  all_goals first | rw [bI_t (by omega)] | rw [bI_f (by omega)]
theorem sp110 {d S b : Nat} {X : q_H} (hd : 1 ≤ d) (hS : S < 64) (hb : b < 6) : Sp d 110 [.ref 82, vI S, vI b] X (some (vI (bI (S / 2 ^ b % 2 = 1)))) X := by
  refine e110 (by omega) ?_
  have e := bit_t (S := S) hS hb
  have h2 : S / 2 ^ b % 2 = 0 ∨ S / 2 ^ b % 2 = 1 := by have := Nat.mod_lt (S / 2 ^ b) (show 0 < 2 by decide); omega
  rcases h2 with h2 | h2
  · rw [h2] at e ⊢
    simp (disch := omega) only [s110_0, s110_1, s110_2, s110_3, s110_4, s110_5, s110_6, s110_6b, s110_9, s110_10, s110_13, s110_14, s110_14b, Int.toNat_natCast, Int.toNat_natCast, Nat.reduceAdd, Nat.reduceMul, Int.reduceToNat, Int.reduceAdd, Int.reduceLT, Int.reduceLE, Int.reduceEq, Int.reduceNeg, Int.reduceMul, Int.reduceSub, Nat.reduceSub, reduceIte, ite_true, ite_false, and_true, true_and, and_self, e, show ((0 : Nat) : Int) = 0 from rfl]
    rfl
  · rw [h2] at e ⊢
    simp (disch := omega) only [s110_0, s110_1, s110_2, s110_3, s110_4, s110_5, s110_6, s110_6b, s110_9, s110_10, s110_13, s110_14, s110_14b, Int.toNat_natCast, Int.toNat_natCast, Nat.reduceAdd, Nat.reduceMul, Int.reduceToNat, Int.reduceAdd, Int.reduceLT, Int.reduceLE, Int.reduceEq, Int.reduceNeg, Int.reduceMul, Int.reduceSub, Nat.reduceSub, reduceIte, ite_true, ite_false, and_true, true_and, and_self, e, show ((1 : Nat) : Int) = 1 from rfl]
    rfl
theorem sp111 {d : Nat} {z : Int} {X : q_H} (hd : 1 ≤ d) (hz : -2147483648 ≤ z ∧ z ≤ 2147483647) : Sp d 111 [.ref 82, vI z] X (some (vI (max 0 z))) X := by
  refine e111 (by omega) ?_
  by_cases c : z < 0
  · have c' : ¬ 0 ≤ z := by omega
    have e : max 0 z = 0 := by omega
    simp (disch := omega) only [s111_0, s111_1, s111_4, s111_5, s111_8, s111_9, Int.toNat_natCast, Int.toNat_natCast, Nat.reduceAdd, Nat.reduceMul, Int.reduceToNat, Int.reduceAdd, Int.reduceLT, Int.reduceLE, Int.reduceEq, Int.reduceNeg, Int.reduceMul, Int.reduceSub, Nat.reduceSub, reduceIte, ite_true, ite_false, and_true, true_and, and_self, c, c', e]
  · have c' : 0 ≤ z := by omega
    have e : max 0 z = z := by omega
    simp (disch := omega) only [s111_0, s111_1, s111_4, s111_5, s111_8, s111_9, Int.toNat_natCast, Int.toNat_natCast, Nat.reduceAdd, Nat.reduceMul, Int.reduceToNat, Int.reduceAdd, Int.reduceLT, Int.reduceLE, Int.reduceEq, Int.reduceNeg, Int.reduceMul, Int.reduceSub, Nat.reduceSub, reduceIte, ite_true, ite_false, and_true, true_and, and_self, c, c', e]
theorem sp112 {d : Nat} {z : Int} {X : q_H} (hd : 1 ≤ d) (hz : -2147483648 ≤ z ∧ z ≤ 2147483647) : Sp d 112 [.ref 82, vI z] X (some (vI (min 99 z))) X := by
  refine e112 (by omega) ?_
  by_cases c : 99 < z
  · have c' : ¬ z ≤ 99 := by omega
    have e : min 99 z = 99 := by omega
    simp (disch := omega) only [s112_0, s112_1, s112_3, s112_6, s112_8, s112_11, s112_12, Int.toNat_natCast, Int.toNat_natCast, Nat.reduceAdd, Nat.reduceMul, Int.reduceToNat, Int.reduceAdd, Int.reduceLT, Int.reduceLE, Int.reduceEq, Int.reduceNeg, Int.reduceMul, Int.reduceSub, Nat.reduceSub, reduceIte, ite_true, ite_false, and_true, true_and, and_self, c, c', e]
  · have c' : z ≤ 99 := by omega
    have e : min 99 z = z := by omega
    simp (disch := omega) only [s112_0, s112_1, s112_3, s112_6, s112_8, s112_11, s112_12, Int.toNat_natCast, Int.toNat_natCast, Nat.reduceAdd, Nat.reduceMul, Int.reduceToNat, Int.reduceAdd, Int.reduceLT, Int.reduceLE, Int.reduceEq, Int.reduceNeg, Int.reduceMul, Int.reduceSub, Nat.reduceSub, reduceIte, ite_true, ite_false, and_true, true_and, and_self, c, c', e]
theorem bI_c {P R : Prop} [Decidable P] [Decidable R] (h : P ↔ R) : bI P = bI R := bI_iff.mpr h
theorem sp113 {d N L : Nat} {z : Int} {B : q_Bv} {G : q_Gi} (hd : 2 ≤ d) (hz : -2147483648 ≤ z ∧ z ≤ 2147483647) (h0 : 0 ≤ G 82 0 ∧ G 82 0 ≤ 6) : Sp d 113 [.ref 82, vI z] (hp N L B G) (some (vI (bI (0 ≤ z ∧ z < G 82 0)))) (hp N L B G) := by
  have h := sp109 (d := d - 1) (z := z) (lo := 0) (hi := G 82 0 - 1) (X := hp N L B G) (by omega) hz (by omega) (by omega)
  rw [bI_c (show (0 ≤ z ∧ z ≤ G 82 0 - 1) ↔ (0 ≤ z ∧ z < G 82 0) by omega)] at h
  refine e113 (by omega) ?_
  simp (disch := omega) only [s113_0, s113_1, s113_2, s113_3, m113_4, s113_7, s113_8, s113_12, s113_12b, Int.toNat_natCast, Int.toNat_natCast, Nat.reduceAdd, Nat.reduceMul, Int.reduceToNat, Int.reduceAdd, Int.reduceLT, Int.reduceLE, Int.reduceEq, Int.reduceNeg, Int.reduceMul, Int.reduceSub, Nat.reduceSub, reduceIte, ite_true, ite_false, and_true, true_and, and_self, m113_9 h]
theorem sp114 {d : Nat} {z : Int} {N L : Nat} {B : q_Bv} {G : q_Gi} (hd : 2 ≤ d) (hz : -2147483648 ≤ z ∧ z ≤ 2147483647) : Sp d 114 [.ref 82, vI z] (hp N L B G) (some (vI (bI (0 ≤ z ∧ z ≤ 3)))) (hp N L B G) := by
  have h := sp109 (d := d - 1) (z := z) (lo := 0) (hi := 3) (X := hp N L B G) (by omega) hz (by omega) (by omega)
  refine e114 (by omega) ?_
  simp (disch := omega) only [s114_0, s114_1, s114_2, s114_3, s114_7, s114_7b, Int.toNat_natCast, Int.toNat_natCast, Nat.reduceAdd, Nat.reduceMul, Int.reduceToNat, Int.reduceAdd, Int.reduceLT, Int.reduceLE, Int.reduceEq, Int.reduceNeg, Int.reduceMul, Int.reduceSub, Nat.reduceSub, reduceIte, ite_true, ite_false, and_true, true_and, and_self, m114_4 h]
theorem sp115 {d : Nat} {z : Int} {N L : Nat} {B : q_Bv} {G : q_Gi} (hd : 2 ≤ d) (hz : -2147483648 ≤ z ∧ z ≤ 2147483647) : Sp d 115 [.ref 82, vI z] (hp N L B G) (some (vI (bI (0 ≤ z ∧ z ≤ 99)))) (hp N L B G) := by
  have h := sp109 (d := d - 1) (z := z) (lo := 0) (hi := 99) (X := hp N L B G) (by omega) hz (by omega) (by omega)
  refine e115 (by omega) ?_
  simp (disch := omega) only [s115_0, s115_1, s115_2, s115_3, s115_8, s115_8b, Int.toNat_natCast, Int.toNat_natCast, Nat.reduceAdd, Nat.reduceMul, Int.reduceToNat, Int.reduceAdd, Int.reduceLT, Int.reduceLE, Int.reduceEq, Int.reduceNeg, Int.reduceMul, Int.reduceSub, Nat.reduceSub, reduceIte, ite_true, ite_false, and_true, true_and, and_self, m115_5 h]
theorem sp116 {d : Nat} {z : Int} {N L : Nat} {B : q_Bv} {G : q_Gi} (hd : 2 ≤ d) (hz : -2147483648 ≤ z ∧ z ≤ 2147483647) : Sp d 116 [.ref 82, vI z] (hp N L B G) (some (vI (bI (0 ≤ z ∧ z ≤ 60)))) (hp N L B G) := by
  have h := sp109 (d := d - 1) (z := z) (lo := 0) (hi := 60) (X := hp N L B G) (by omega) hz (by omega) (by omega)
  refine e116 (by omega) ?_
  simp (disch := omega) only [s116_0, s116_1, s116_2, s116_3, s116_8, s116_8b, Int.toNat_natCast, Int.toNat_natCast, Nat.reduceAdd, Nat.reduceMul, Int.reduceToNat, Int.reduceAdd, Int.reduceLT, Int.reduceLE, Int.reduceEq, Int.reduceNeg, Int.reduceMul, Int.reduceSub, Nat.reduceSub, reduceIte, ite_true, ite_false, and_true, true_and, and_self, m116_5 h]
/-- a step as the model writes it -/
def mtk (t : Int) : Int := if t = -3 then -33 else if t = -1 then -38 else if t = -2 then -124 else t
/-- a clause as the model keeps it: word, number, steps -/
def rcW (G : q_Gi) (i : Nat) (r : Int × Int × List Int) : Prop := G 90 i = r.1 ∧ G 91 i = r.2.1 ∧ (r.1 ≤ 1 → ∃ a : Nat, G 92 i = (a : Int) ∧ G 93 i = ((a + r.2.2.length : Nat) : Int) ∧ a + r.2.2.length ≤ 600 ∧ ∀ k, k < r.2.2.length → G 94 (a + k) = mtk (r.2.2.getD k 0))
def rcOK (r : Int × Int × List Int) : Prop := (0 ≤ r.1 ∧ r.1 ≤ 3) ∧ (0 ≤ r.2.1 ∧ r.2.1 ≤ 99) ∧ (r.1 ≤ 1 → okS r.2.2 0)
def rc0 : Int × Int × List Int := (0, 0, [])
def mu (G : q_Gi) (the : Int) (rc : List (Int × Int × List Int)) : Prop := ∃ b0 : Nat, b0 + rc.length ≤ 60 ∧ rc.length ≤ 10 ∧ ((the = -1 ∧ b0 = 0 ∧ rc = []) ∨ ∃ f : Nat, f < 6 ∧ the = (f : Int) ∧ b0 = 10 * f ∧ G 89 f = (rc.length : Int)) ∧ (∀ i, i < rc.length → rcW G (b0 + i) (rc.getD i rc0)) ∧ ∀ r, r ∈ rc → rcOK r
def lsR (w : Int) : List (Int × Int × List Int) → Int → Int
  | [], n => n
  | r :: rc, n => lsR w rc (if r.1 = w then r.2.1 else n)
theorem lsR_r {w : Int} : ∀ (rc : List (Int × Int × List Int)) (n : Int), (∀ r, r ∈ rc → rcOK r) → 0 ≤ n ∧ n ≤ 99 → 0 ≤ lsR w rc n ∧ lsR w rc n ≤ 99
  | [], n, _, h => h
  | r :: rc, n, hr, h => by
    unfold lsR
    refine lsR_r rc _ (fun r' h' => hr r' (List.mem_cons_of_mem _ h')) ?_
    have := (hr r List.mem_cons_self).2.1
    split <;> omega
theorem sp138 {d N L b0 : Nat} {the : Int} {n : Int} {B : q_Bv} {G : q_Gi} (hd : 1 ≤ d) (h9 : G 82 9 = the) (h : (the = -1 ∧ b0 = 0 ∧ n = 0) ∨ ∃ f : Nat, f < 6 ∧ the = (f : Int) ∧ b0 = 10 * f ∧ G 89 f = n) : Sp d 138 [.ref 82] (hp N L B G) (some (vI b0)) (hp N L B G) := by
  refine e138 (by omega) ?_
  rcases h with ⟨h, e, _⟩ | ⟨f, hf, h, e, _⟩
  · subst e
    rw [h] at h9
    simp (disch := omega) only [s138_0, m138_1, s138_4, s138_7, s138_8, s138_11, s138_13, m138_14, s138_17, s138_18, Int.toNat_natCast, Int.toNat_natCast, Nat.reduceAdd, Nat.reduceMul, Int.reduceToNat, Int.reduceAdd, Int.reduceLT, Int.reduceLE, Int.reduceEq, Int.reduceNeg, Int.reduceMul, Int.reduceSub, Nat.reduceSub, reduceIte, ite_true, ite_false, and_true, true_and, and_self, h9, show ((0 : Nat) : Int) = 0 from rfl]
  · rw [h] at h9
    have c : ¬ (f : Int) < 0 := by omega
    have e2 : (10 : Int) * (f : Int) = (b0 : Int) := by omega
    simp (disch := omega) only [s138_0, m138_1, s138_4, s138_7, s138_8, s138_11, s138_13, m138_14, s138_17, s138_18, Int.toNat_natCast, Int.toNat_natCast, Nat.reduceAdd, Nat.reduceMul, Int.reduceToNat, Int.reduceAdd, Int.reduceLT, Int.reduceLE, Int.reduceEq, Int.reduceNeg, Int.reduceMul, Int.reduceSub, Nat.reduceSub, reduceIte, ite_true, ite_false, and_true, true_and, and_self, h9, c, e2]
theorem sp139 {d N L b0 : Nat} {the : Int} {n : Int} {B : q_Bv} {G : q_Gi} (hd : 1 ≤ d) (h9 : G 82 9 = the) (h : (the = -1 ∧ b0 = 0 ∧ n = 0) ∨ ∃ f : Nat, f < 6 ∧ the = (f : Int) ∧ b0 = 10 * f ∧ G 89 f = n) : Sp d 139 [.ref 82] (hp N L B G) (some (vI ((b0 : Int) + n))) (hp N L B G) := by
  refine e139 (by omega) ?_
  rcases h with ⟨h, e, e'⟩ | ⟨f, hf, h, e, e'⟩
  · subst e e'
    rw [h] at h9
    simp (disch := omega) only [s139_0, m139_1, s139_4, s139_7, s139_8, s139_11, s139_13, m139_14, s139_17, s139_18, m139_19, s139_22, m139_23, m139_26, s139_27, s139_28, Int.toNat_natCast, Int.toNat_natCast, Nat.reduceAdd, Nat.reduceMul, Int.reduceToNat, Int.reduceAdd, Int.reduceLT, Int.reduceLE, Int.reduceEq, Int.reduceNeg, Int.reduceMul, Int.reduceSub, Nat.reduceSub, reduceIte, ite_true, ite_false, and_true, true_and, and_self, h9, show ((0 : Nat) : Int) + 0 = 0 from rfl]
  · rw [h] at h9
    have c : ¬ (f : Int) < 0 := by omega
    have e2 : (10 : Int) * (f : Int) = (b0 : Int) := by omega
    simp (disch := omega) only [s139_0, m139_1, s139_4, s139_7, s139_8, s139_11, s139_13, m139_14, s139_17, s139_18, m139_19, s139_22, m139_23, m139_26, s139_27, s139_28, Int.toNat_natCast, Int.toNat_natCast, Nat.reduceAdd, Nat.reduceMul, Int.reduceToNat, Int.reduceAdd, Int.reduceLT, Int.reduceLE, Int.reduceEq, Int.reduceNeg, Int.reduceMul, Int.reduceSub, Nat.reduceSub, reduceIte, ite_true, ite_false, and_true, true_and, and_self, h9, c, e2, e']
theorem mu_b {G : q_Gi} {the : Int} {rc : List (Int × Int × List Int)} {b0 : Nat} (h : (the = -1 ∧ b0 = 0 ∧ rc = []) ∨ ∃ f : Nat, f < 6 ∧ the = (f : Int) ∧ b0 = 10 * f ∧ G 89 f = (rc.length : Int)) : (the = -1 ∧ b0 = 0 ∧ (rc.length : Int) = 0) ∨ ∃ f : Nat, f < 6 ∧ the = (f : Int) ∧ b0 = 10 * f ∧ G 89 f = (rc.length : Int) := by
  rcases h with ⟨h1, h2, h3⟩ | h
  · left; refine ⟨h1, h2, ?_⟩; rw [h3]; rfl
  · exact Or.inr h
theorem lp140 {d N L b0 : Nat} {the n w nn : Int} {B : q_Bv} {G : q_Gi} (hd : 1 ≤ d) (h9 : G 82 9 = the) (hb : (the = -1 ∧ b0 = 0 ∧ n = 0) ∨ ∃ f : Nat, f < 6 ∧ the = (f : Int) ∧ b0 = 10 * f ∧ G 89 f = n) (hw : 0 ≤ w ∧ w ≤ 100) (hn : 0 ≤ n ∧ n ≤ 60) : ∀ (rc : List (Int × Int × List Int)) (i : Nat) (x : Int), ((i : Int) + rc.length = b0 + n) → i + rc.length ≤ 60 → (∀ k, k < rc.length → rcW G (i + k) (rc.getD k rc0)) → (∀ r, r ∈ rc → rcOK r) → WP d 140 8 [.ref 82, vI w, vI nn, vI x, vI i] [] (hp N L B G) (fun r1 X1 => r1 = some (vI (lsR w rc x)) ∧ X1 = hp N L B G) := by
  have h139 := sp139 (d := d) (N := N) (L := L) (B := B) hd h9 hb
  intro rc
  induction rc with
  | nil =>
    intro i x hi h60 hr hk
    rw [List.length_nil] at hi
    have h1 : ¬ (i : Int) < (b0 : Int) + n := by omega
    simp (disch := omega) only [s140_8, s140_10, s140_14, s140_17, m140_18, s140_21, m140_23, s140_24, s140_25, s140_25b, s140_28, m140_29, s140_32, m140_34, s140_35, s140_38, s140_39, s140_40, s140_43, s140_46, s140_47, Int.toNat_natCast, Int.toNat_natCast, Nat.reduceAdd, Nat.reduceMul, Int.reduceToNat, Int.reduceAdd, Int.reduceLT, Int.reduceLE, Int.reduceEq, Int.reduceNeg, Int.reduceMul, Int.reduceSub, Nat.reduceSub, reduceIte, ite_true, ite_false, and_true, true_and, and_self, m140_11 h139, h1, lsR]
  | cons r rc ih =>
    intro i x hi h60 hr hk
    rw [List.length_cons] at hi h60
    have h1 : (i : Int) < (b0 : Int) + n := by omega
    have h0 := hr 0 (by rw [List.length_cons]; omega)
    have h90 : G 90 i = r.1 := h0.1
    have h91 : G 91 i = r.2.1 := h0.2.1
    have hrk := hk r List.mem_cons_self
    have hr1 := hrk.1
    have := ih (i + 1) (if r.1 = w then r.2.1 else x) (by omega) (by omega) (fun k hk => by
      have := hr (k + 1) (by rw [List.length_cons]; omega)
      rw [show i + (k + 1) = i + 1 + k by omega] at this
      exact this) (fun r' h' => hk r' (List.mem_cons_of_mem _ h'))
    unfold lsR
    rw [s140_8]
    by_cases c : r.1 = w
    · have c' := eq_true c
      rw [if_pos c] at this ⊢
      simp (disch := omega) only [s140_10, s140_14, s140_17, m140_18, s140_21, m140_23, s140_24, s140_25, s140_25b, s140_28, m140_29, s140_32, m140_34, s140_35, s140_38, s140_39, s140_40, s140_43, Int.toNat_natCast, Int.toNat_natCast, Nat.reduceAdd, Nat.reduceMul, Int.reduceToNat, Int.reduceAdd, Int.reduceLT, Int.reduceLE, Int.reduceEq, Int.reduceNeg, Int.reduceMul, Int.reduceSub, Nat.reduceSub, reduceIte, ite_true, ite_false, and_true, true_and, and_self, m140_11 h139, h1, h90, h91, c', if_true]
      exact this
    · have c' := eq_false c
      rw [if_neg c] at this ⊢
      simp (disch := omega) only [s140_10, s140_14, s140_17, m140_18, s140_21, m140_23, s140_24, s140_25, s140_25b, s140_28, m140_29, s140_32, m140_34, s140_35, s140_38, s140_39, s140_40, s140_43, Int.toNat_natCast, Int.toNat_natCast, Nat.reduceAdd, Nat.reduceMul, Int.reduceToNat, Int.reduceAdd, Int.reduceLT, Int.reduceLE, Int.reduceEq, Int.reduceNeg, Int.reduceMul, Int.reduceSub, Nat.reduceSub, reduceIte, ite_true, ite_false, and_true, true_and, and_self, m140_11 h139, h1, h90, h91, c', if_false]
      exact this
theorem sp140 {d N L : Nat} {the w n : Int} {rc : List (Int × Int × List Int)} {B : q_Bv} {G : q_Gi} (hd : 2 ≤ d) (h9 : G 82 9 = the) (h : mu G the rc) (hw : 0 ≤ w ∧ w ≤ 100) : Sp d 140 [.ref 82, vI w, vI n] (hp N L B G) (some (vI (lsR w rc n))) (hp N L B G) := by
  obtain ⟨b0, q1, q2, q3, q4, q5⟩ := h
  have h138 := sp138 (d := d - 1) (N := N) (L := L) (B := B) (by omega) h9 (mu_b q3)
  refine e140 (by omega) ?_
  simp (disch := omega) only [s140_0, s140_1, s140_2, s140_6, Int.toNat_natCast, Int.toNat_natCast, Nat.reduceAdd, Nat.reduceMul, Int.reduceToNat, Int.reduceAdd, Int.reduceLT, Int.reduceLE, Int.reduceEq, Int.reduceNeg, Int.reduceMul, Int.reduceSub, Nat.reduceSub, reduceIte, ite_true, ite_false, and_true, true_and, and_self, m140_3 h138]
  exact lp140 (d := d - 1) (n := (rc.length : Int)) (by omega) h9 (mu_b q3) hw (by omega) rc b0 n rfl q1 q4 q5
/-! a BELL -/
theorem sp145 {d b N L : Nat} {B : q_Bv} {G H : q_Gi} (hd : 1 ≤ d) (hv : mv G H) (ho : Hok H) (hb : b < 6) : Sp d 145 [.ref 82, vI b] (hp N L B G) (some (vI (hungS H b))) (hp N L B G) := by
  obtain ⟨v0, v1, v2, vk, vv, vf, vr, vs⟩ := hv
  have k1 := ho.2.1 b hb
  have k2 := ho.2.2.1 b hb
  have k6 := ho.2.2.2.2.2.2.1
  have e1 : ((4 : Int) * (b : Int) + H 0 1 % 4).toNat = b * 4 + (H 0 1).toNat % 4 := by omega
  have er := vr (b * 4 + (H 0 1).toNat % 4) (by omega)
  unfold hungS
  refine e145 (by omega) ?_
  have hk : H 1 b = 0 ∨ H 1 b = 1 ∨ H 1 b = 2 ∨ H 1 b = 3 ∨ H 1 b = 4 ∨ H 1 b = 5 ∨ H 1 b = 6 := by omega
  rcases hk with hk | hk | hk | hk | hk | hk | hk
  all_goals
    simp (disch := omega) only [s145_0, s145_1, m145_2, s145_5, m145_6, s145_7, s145_8, s145_9, s145_10, s145_11, m145_12, s145_15, m145_16, s145_17, s145_56, s145_57, s145_58, s145_59, s145_60, s145_61, s145_62, s145_63, s145_64, s145_65, s145_66, s145_67, s145_68, s145_69, s145_70, s145_71, m145_72, s145_75, s145_76, s145_77, s145_78, m145_79, s145_82, s145_83, s145_84, m145_85, s145_86, s145_87, s145_88, s145_89, Int.toNat_natCast, Int.toNat_natCast, Nat.reduceAdd, Nat.reduceMul, Int.reduceToNat, Int.reduceAdd, Int.reduceLT, Int.reduceLE, Int.reduceEq, Int.reduceNeg, Int.reduceMul, Int.reduceSub, Nat.reduceSub, reduceIte, ite_true, ite_false, and_true, true_and, and_self, vk b hb, vv b hb, hk, v1, e1, er]
    rfl
theorem sp146 {d b N L : Nat} {B : q_Bv} {G H : q_Gi} (hd : 1 ≤ d) (hv : mv G H) (ho : Hok H) (hb : b < 6) : Sp d 146 [.ref 82, vI b] (hp N L B G) (some (vI (noteS (H 1 b) (H 2 b)))) (hp N L B G) := by
  obtain ⟨v0, v1, v2, vk, vv, vf, vr, vs⟩ := hv
  have k1 := ho.2.1 b hb
  have k2 := ho.2.2.1 b hb
  refine e146 (by omega) ?_
  have hk : H 1 b = 0 ∨ H 1 b = 1 ∨ H 1 b = 2 ∨ H 1 b = 3 ∨ H 1 b = 4 ∨ H 1 b = 5 ∨ H 1 b = 6 := by omega
  rcases hk with hk | hk | hk | hk | hk | hk | hk
  all_goals
    simp (disch := omega) only [s146_0, m146_1, s146_4, m146_5, s146_6, s146_44, s146_46, m146_47, s146_50, m146_51, s146_52, s146_53, s146_54, s146_56, s146_57, s146_59, s146_60, s146_62, m146_63, s146_66, m146_67, s146_68, s146_69, s146_70, s146_72, m146_73, s146_76, m146_77, s146_78, s146_79, s146_80, s146_82, m146_83, s146_86, m146_87, s146_88, s146_89, s146_90, s146_92, Int.toNat_natCast, Int.toNat_natCast, Nat.reduceAdd, Nat.reduceMul, Int.reduceToNat, Int.reduceAdd, Int.reduceLT, Int.reduceLE, Int.reduceEq, Int.reduceNeg, Int.reduceMul, Int.reduceSub, Nat.reduceSub, reduceIte, ite_true, ite_false, and_true, true_and, and_self, vk b hb, vv b hb, hk]
    rfl
theorem sp147 {d b N L : Nat} {B : q_Bv} {G H : q_Gi} (hd : 2 ≤ d) (hv : mv G H) (ho : Hok H) (hb : b < 6) : Sp d 147 [.ref 82, vI b] (hp N L B G) (some (vI (offS (H 1 b) (H 2 b) (H 3 b)))) (hp N L B G) := by
  have h146 := sp146 (d := d - 1) (N := N) (L := L) (B := B) (by omega) hv ho hb
  have kn := @noteS_r (H 1 b) (H 2 b) (ho.2.2.1 b hb)
  have k3 := ho.2.2.2.1 b hb
  have vf := hv.2.2.2.2.2.1 b hb
  unfold offS
  refine e147 (by omega) ?_
  by_cases c : H 3 b < noteS (H 1 b) (H 2 b)
  · have e : ((H 3 b - noteS (H 1 b) (H 2 b)).natAbs : Int) = noteS (H 1 b) (H 2 b) - H 3 b := by omega
    rw [e]
    simp (disch := omega) only [s147_0, m147_1, s147_4, m147_5, s147_6, s147_7, s147_11, s147_14, s147_15, s147_19, m147_20, s147_23, m147_24, s147_25, s147_26, s147_29, m147_30, s147_33, m147_34, s147_35, s147_36, s147_40, s147_41, Int.toNat_natCast, Int.toNat_natCast, Nat.reduceAdd, Nat.reduceMul, Int.reduceToNat, Int.reduceAdd, Int.reduceLT, Int.reduceLE, Int.reduceEq, Int.reduceNeg, Int.reduceMul, Int.reduceSub, Nat.reduceSub, reduceIte, ite_true, ite_false, and_true, true_and, and_self, vf, m147_8 h146, m147_16 h146, c]
  · have e : ((H 3 b - noteS (H 1 b) (H 2 b)).natAbs : Int) = H 3 b - noteS (H 1 b) (H 2 b) := by omega
    rw [e]
    simp (disch := omega) only [s147_0, m147_1, s147_4, m147_5, s147_6, s147_7, s147_11, s147_14, s147_15, s147_19, m147_20, s147_23, m147_24, s147_25, s147_26, s147_29, m147_30, s147_33, m147_34, s147_35, s147_36, s147_40, s147_41, Int.toNat_natCast, Int.toNat_natCast, Nat.reduceAdd, Nat.reduceMul, Int.reduceToNat, Int.reduceAdd, Int.reduceLT, Int.reduceLE, Int.reduceEq, Int.reduceNeg, Int.reduceMul, Int.reduceSub, Nat.reduceSub, reduceIte, ite_true, ite_false, and_true, true_and, and_self, vf, m147_8 h146, m147_37 h146, c]
theorem sp148 {d b N L : Nat} {the : Int} {rc : List (Int × Int × List Int)} {B : q_Bv} {G H : q_Gi} (hd : 3 ≤ d) (hv : mv G H) (ho : Hok H) (h9 : G 82 9 = the) (hm : mu G the rc) (hb : b < 6) : Sp d 148 [.ref 82, vI b] (hp N L B G) (some (vI (bI (tunS (lsR 2 rc 9) H b = true)))) (hp N L B G) := by
  have h147 := sp147 (d := d - 1) (N := N) (L := L) (B := B) (by omega) hv ho hb
  have h140 := sp140 (d := d - 1) (N := N) (L := L) (B := B) (w := 2) (n := 9) (by omega) h9 hm (by omega)
  have kn := @noteS_r (H 1 b) (H 2 b) (ho.2.2.1 b hb)
  have k3 := ho.2.2.2.1 b hb
  have kl := lsR_r (w := 2) rc 9 (by obtain ⟨b0, q1, q2, q3, q4, q5⟩ := hm; exact q5) (by omega)
  have ko : 0 ≤ offS (H 1 b) (H 2 b) (H 3 b) ∧ offS (H 1 b) (H 2 b) (H 3 b) ≤ 1000 := by unfold offS; omega
  have et : tunS (lsR 2 rc 9) H b = decide (offS (H 1 b) (H 2 b) (H 3 b) ≤ lsR 2 rc 9) := rfl
  refine e148 (by omega) ?_
  by_cases c : offS (H 1 b) (H 2 b) (H 3 b) ≤ lsR 2 rc 9
  · have c2 : ¬ lsR 2 rc 9 < offS (H 1 b) (H 2 b) (H 3 b) := by omega
    rw [bI_t (by rw [et]; exact decide_eq_true c)]
    simp (disch := omega) only [s148_0, s148_1, s148_5, s148_6, s148_7, s148_12, s148_15, s148_16, s148_19, s148_20, s148_20b, Int.toNat_natCast, Int.toNat_natCast, Nat.reduceAdd, Nat.reduceMul, Int.reduceToNat, Int.reduceAdd, Int.reduceLT, Int.reduceLE, Int.reduceEq, Int.reduceNeg, Int.reduceMul, Int.reduceSub, Nat.reduceSub, reduceIte, ite_true, ite_false, and_true, true_and, and_self, m148_2 h147, m148_9 h140, c, c2]
  · have c2 : lsR 2 rc 9 < offS (H 1 b) (H 2 b) (H 3 b) := by omega
    rw [bI_f (by rw [et]; exact fun h => c (of_decide_eq_true h))]
    simp (disch := omega) only [s148_0, s148_1, s148_5, s148_6, s148_7, s148_12, s148_15, s148_16, s148_19, s148_20, s148_20b, Int.toNat_natCast, Int.toNat_natCast, Nat.reduceAdd, Nat.reduceMul, Int.reduceToNat, Int.reduceAdd, Int.reduceLT, Int.reduceLE, Int.reduceEq, Int.reduceNeg, Int.reduceMul, Int.reduceSub, Nat.reduceSub, reduceIte, ite_true, ite_false, and_true, true_and, and_self, m148_2 h147, m148_9 h140, c, c2]
