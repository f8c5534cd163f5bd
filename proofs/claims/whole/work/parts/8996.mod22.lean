/-! the model reads a text: small things -/
theorem mrd_u {G : q_Gi} {n k : Nat} {z : Int} {nx : Nat → Int} (h : mrd G n nx) (hk : k ≠ 10) : mrd (ug G 82 k z) n nx := ⟨by rw [ug_k (by omega)]; exact h.1, h.2.1, by rw [ug_ne (by omega)]; exact h.2.2.1, h.2.2.2⟩
theorem nx_r {nx : Nat → Int} {n : Nat} (h : txt nx n) (p : Nat) : -1 ≤ nx p ∧ nx p ≤ 127 := by
  by_cases c : p < n
  · have := h.2 p c; omega
  · rw [h.1 p (by omega)]; decide
theorem sp122 {d n p N L : Nat} {B : q_Bv} {G : q_Gi} {nx : Nat → Int} (hd : 1 ≤ d) (h : mrd G n nx) (ha : G 82 11 = (p : Int)) (hpn : p ≤ n) : Sp d 122 [.ref 82] (hp N L B G) (some (vI (nx p))) (hp N L B G) := by
  obtain ⟨m0, m1, m2, m3⟩ := h
  refine e122 (by omega) ?_
  by_cases c : p < n
  · have c' : (p : Int) < (n : Int) := by omega
    have w := m2 p c
    simp (disch := omega) only [s122_0, m122_1, s122_4, m122_5, s122_8, s122_11, m122_12, s122_15, m122_16, m122_19, s122_20, s122_23, s122_24, Int.toNat_natCast, Int.toNat_natCast, Nat.reduceAdd, Nat.reduceMul, Int.reduceToNat, Int.reduceAdd, Int.reduceLT, Int.reduceLE, Int.reduceEq, Int.reduceNeg, Int.reduceMul, Int.reduceSub, Nat.reduceSub, reduceIte, ite_true, ite_false, and_true, true_and, and_self, m0, ha, c', w]
  · have c' : ¬ (p : Int) < (n : Int) := by omega
    rw [m3.1 p (by omega)]
    simp (disch := omega) only [s122_0, m122_1, s122_4, m122_5, s122_8, s122_11, m122_12, s122_15, m122_16, m122_19, s122_20, s122_23, s122_24, Int.toNat_natCast, Int.toNat_natCast, Nat.reduceAdd, Nat.reduceMul, Int.reduceToNat, Int.reduceAdd, Int.reduceLT, Int.reduceLE, Int.reduceEq, Int.reduceNeg, Int.reduceMul, Int.reduceSub, Nat.reduceSub, reduceIte, ite_true, ite_false, and_true, true_and, and_self, m0, ha, c']
theorem sp123 {d n p N L : Nat} {B : q_Bv} {G : q_Gi} {nx : Nat → Int} (hd : 1 ≤ d) (h : mrd G n nx) (ha : G 82 11 = (p : Int)) (hpn : p ≤ n) : Sp d 123 [.ref 82] (hp N L B G) (some (vI (nx (p + 1)))) (hp N L B G) := by
  obtain ⟨m0, m1, m2, m3⟩ := h
  refine e123 (by omega) ?_
  by_cases c : p + 1 < n
  · have c' : (p : Int) + 1 < (n : Int) := by omega
    have w := m2 (p + 1) c
    have e : ((p : Int) + 1).toNat = p + 1 := by omega
    simp (disch := omega) only [s123_0, m123_1, s123_4, s123_5, s123_6, m123_7, s123_10, s123_13, m123_14, s123_17, m123_18, s123_21, s123_22, m123_23, s123_24, s123_27, s123_28, Int.toNat_natCast, Int.toNat_natCast, Nat.reduceAdd, Nat.reduceMul, Int.reduceToNat, Int.reduceAdd, Int.reduceLT, Int.reduceLE, Int.reduceEq, Int.reduceNeg, Int.reduceMul, Int.reduceSub, Nat.reduceSub, reduceIte, ite_true, ite_false, and_true, true_and, and_self, m0, ha, c', e, w]
  · have c' : ¬ (p : Int) + 1 < (n : Int) := by omega
    rw [m3.1 (p + 1) (by omega)]
    simp (disch := omega) only [s123_0, m123_1, s123_4, s123_5, s123_6, m123_7, s123_10, s123_13, m123_14, s123_17, m123_18, s123_21, s123_22, m123_23, s123_24, s123_27, s123_28, Int.toNat_natCast, Int.toNat_natCast, Nat.reduceAdd, Nat.reduceMul, Int.reduceToNat, Int.reduceAdd, Int.reduceLT, Int.reduceLE, Int.reduceEq, Int.reduceNeg, Int.reduceMul, Int.reduceSub, Nat.reduceSub, reduceIte, ite_true, ite_false, and_true, true_and, and_self, m0, ha, c']
theorem sp124_t {d n p N L : Nat} {c : Int} {B : q_Bv} {G : q_Gi} {nx : Nat → Int} (hd : 2 ≤ d) (h : mrd G n nx) (ha : G 82 11 = (p : Int)) (hpn : p ≤ n) (hc : 0 ≤ c ∧ c ≤ 127) (e : nx p = c) : Sp d 124 [.ref 82, vI c] (hp N L B G) (some (vI 1)) (hp N L B (ug G 82 11 ((p + 1 : Nat) : Int))) := by
  have h122 := sp122 (d := d - 1) (N := N) (L := L) (B := B) (by omega) h ha hpn
  have hn := h.2.1
  rw [e] at h122
  refine e124 (by omega) ?_
  simp (disch := omega) only [s124_0, s124_4, s124_5, s124_5b, s124_8, s124_9, s124_9b, s124_10, s124_11, m124_12, s124_15, s124_16, m124_17, s124_20, s124_21, s124_21b, Int.toNat_natCast, Int.toNat_natCast, Nat.reduceAdd, Nat.reduceMul, Int.reduceToNat, Int.reduceAdd, Int.reduceLT, Int.reduceLE, Int.reduceEq, Int.reduceNeg, Int.reduceMul, Int.reduceSub, Nat.reduceSub, reduceIte, ite_true, ite_false, and_true, true_and, and_self, m124_1 h122, ha]
  rfl
theorem sp124_f {d n p N L : Nat} {c : Int} {B : q_Bv} {G : q_Gi} {nx : Nat → Int} (hd : 2 ≤ d) (h : mrd G n nx) (ha : G 82 11 = (p : Int)) (hpn : p ≤ n) (hc : 0 ≤ c ∧ c ≤ 127) (e : ¬ nx p = c) : Sp d 124 [.ref 82, vI c] (hp N L B G) (some (vI 0)) (hp N L B G) := by
  have h122 := sp122 (d := d - 1) (N := N) (L := L) (B := B) (by omega) h ha hpn
  have hr := nx_r h.2.2.2 p
  have e' := eq_false e
  refine e124 (by omega) ?_
  simp (disch := omega) only [s124_0, s124_4, s124_5, s124_5b, s124_8, s124_9, s124_9b, s124_10, s124_11, m124_12, s124_15, s124_16, m124_17, s124_20, s124_21, s124_21b, Int.toNat_natCast, Int.toNat_natCast, Nat.reduceAdd, Nat.reduceMul, Int.reduceToNat, Int.reduceAdd, Int.reduceLT, Int.reduceLE, Int.reduceEq, Int.reduceNeg, Int.reduceMul, Int.reduceSub, Nat.reduceSub, reduceIte, ite_true, ite_false, and_true, true_and, and_self, m124_1 h122, e', if_false]
theorem lp125 {d n fr ma N L : Nat} {B : q_Bv} {nx : Nat → Int} (hd : 2 ≤ d) (hfm : fr + ma ≤ 20) {G0 : q_Gi} (h0 : mrd G0 n nx) : ∀ (l : List Int) (k p : Nat) (G : q_Gi), k + l.length = ma → (∀ i, i < l.length → G0 96 (fr + k + i) = l.getD i 0) → (∀ c, c ∈ l → 0 ≤ c ∧ c ≤ 127) → G = ug G0 82 11 (p : Int) → p ≤ n → WP d 125 2 [.ref 82, vI fr, vI ma, vI k] [] (hp N L B G) (fun r1 X1 => r1 = some (vI (bI ((wrdS nx (l ++ [32]) p).1 = true))) ∧ X1 = hp N L B (ug G0 82 11 ((wrdS nx (l ++ [32]) p).2 : Nat))) := by
  intro l
  induction l with
  | nil =>
    intro k p G hk hl hc hG hpn
    subst hG
    rw [List.length_nil] at hk
    have h1 : ¬ (k : Int) < (ma : Int) := by omega
    have hm := mrd_u (z := (p : Int)) h0 (show 11 ≠ 10 by omega)
    show WP d 125 2 _ _ _ (fun r1 X1 => r1 = some (vI (bI ((if nx p = 32 then (true, p + 1) else (false, p)).1 = true))) ∧ X1 = hp N L B (ug G0 82 11 ((if nx p = 32 then (true, p + 1) else (false, p)).2 : Nat)))
    by_cases e : nx p = 32
    · have h124 := sp124_t (d := d) (N := N) (L := L) (B := B) hd hm ug_at hpn (by decide) e
      rw [ug_ug] at h124
      rw [if_pos e, bI_t rfl]
      simp (disch := omega) only [s125_2, s125_3, s125_4, s125_30, s125_31, s125_36, s125_36b, Int.toNat_natCast, Int.toNat_natCast, Nat.reduceAdd, Nat.reduceMul, Int.reduceToNat, Int.reduceAdd, Int.reduceLT, Int.reduceLE, Int.reduceEq, Int.reduceNeg, Int.reduceMul, Int.reduceSub, Nat.reduceSub, reduceIte, ite_true, ite_false, and_true, true_and, and_self, h1, m125_33 h124]
    · have h124 := sp124_f (d := d) (N := N) (L := L) (B := B) hd hm ug_at hpn (by decide) e
      rw [if_neg e, bI_f Bool.false_ne_true]
      simp (disch := omega) only [s125_2, s125_3, s125_4, s125_30, s125_31, s125_36, s125_36b, Int.toNat_natCast, Int.toNat_natCast, Nat.reduceAdd, Nat.reduceMul, Int.reduceToNat, Int.reduceAdd, Int.reduceLT, Int.reduceLE, Int.reduceEq, Int.reduceNeg, Int.reduceMul, Int.reduceSub, Nat.reduceSub, reduceIte, ite_true, ite_false, and_true, true_and, and_self, h1, m125_33 h124]
  | cons c l ih =>
    intro k p G hk hl hc hG hpn
    subst hG
    rw [List.length_cons] at hk
    have h1 : (k : Int) < (ma : Int) := by omega
    have hm := mrd_u (z := (p : Int)) h0 (show 11 ≠ 10 by omega)
    have w : G0 96 (fr + k) = c := hl 0 (by rw [List.length_cons]; omega)
    have ew : ((fr : Int) + (k : Int)).toNat = fr + k := by omega
    have hc0 := hc c List.mem_cons_self
    have e0 : wrdS nx ((c :: l) ++ [32]) p = if nx p = c then wrdS nx (l ++ [32]) (p + 1) else (false, p) := rfl
    rw [e0]
    by_cases e : nx p = c
    · have lt := txt_lt h0.2.2.2 hc0.1 e
      have h124 := sp124_t (d := d) (N := N) (L := L) (B := B) hd hm ug_at hpn hc0 e
      rw [ug_ug] at h124
      have := ih (k + 1) (p + 1) _ (by omega) (fun i hi => by
        have := hl (i + 1) (by rw [List.length_cons]; omega)
        rw [show fr + k + (i + 1) = fr + (k + 1) + i by omega] at this
        exact this) (fun c' h' => hc c' (List.mem_cons_of_mem _ h')) rfl (by omega)
      rw [if_pos e]
      rw [s125_2]
      simp (disch := omega) only [s125_3, s125_4, s125_7, s125_8, m125_9, s125_12, s125_13, s125_14, m125_15, s125_19, s125_19b, s125_22, s125_23, s125_23b, s125_24, s125_27, Int.toNat_natCast, Int.toNat_natCast, Nat.reduceAdd, Nat.reduceMul, Int.reduceToNat, Int.reduceAdd, Int.reduceLT, Int.reduceLE, Int.reduceEq, Int.reduceNeg, Int.reduceMul, Int.reduceSub, Nat.reduceSub, reduceIte, ite_true, ite_false, and_true, true_and, and_self, h1, ug_ne, ew, w, m125_16 h124]
      exact this
    · have h124 := sp124_f (d := d) (N := N) (L := L) (B := B) hd hm ug_at hpn hc0 e
      rw [if_neg e, bI_f Bool.false_ne_true]
      simp (disch := omega) only [s125_2, s125_3, s125_4, s125_7, s125_8, m125_9, s125_12, s125_13, s125_14, m125_15, s125_19, s125_19b, s125_22, s125_23, s125_23b, Int.toNat_natCast, Int.toNat_natCast, Nat.reduceAdd, Nat.reduceMul, Int.reduceToNat, Int.reduceAdd, Int.reduceLT, Int.reduceLE, Int.reduceEq, Int.reduceNeg, Int.reduceMul, Int.reduceSub, Nat.reduceSub, reduceIte, ite_true, ite_false, and_true, true_and, and_self, h1, ug_ne, ew, w, m125_16 h124]
/-- the letters lie -/
def ltr (G : q_Gi) : Prop := ∀ j, j < 20 → G 96 j = ([108, 105, 107, 101, 115, 108, 111, 97, 116, 104, 101, 115, 116, 117, 110, 101, 103, 114, 111, 119] : List Int).getD j 0
theorem sp125_0 {d n p N L : Nat} {B : q_Bv} {G : q_Gi} {nx : Nat → Int} (hd : 3 ≤ d) (h : mrd G n nx) (hl : ltr G) (ha : G 82 11 = (p : Int)) (hpn : p ≤ n) : Sp d 125 [.ref 82, vI 12, vI 4] (hp N L B G) (some (vI (bI ((wrdS nx wdT p).1 = true)))) (hp N L B (ug G 82 11 ((wrdS nx wdT p).2 : Nat))) := by
  refine e125 (by omega) ?_
  simp (disch := omega) only [s125_0, s125_1, Int.toNat_natCast, Int.toNat_natCast, Nat.reduceAdd, Nat.reduceMul, Int.reduceToNat, Int.reduceAdd, Int.reduceLT, Int.reduceLE, Int.reduceEq, Int.reduceNeg, Int.reduceMul, Int.reduceSub, Nat.reduceSub, reduceIte, ite_true, ite_false, and_true, true_and, and_self]
  have := lp125 (d := d - 1) (n := n) (fr := 12) (ma := 4) (N := N) (L := L) (B := B) (G0 := G) (by omega) (by decide) h (wdT.take 4) 0 p G rfl (fun i hi => by
    have hi' : i < 4 := hi
    rw [hl _ (by omega)]
    have hi2 : i = 0 ∨ i = 1 ∨ i = 2 ∨ i = 3 ∨ i = 4 ∨ i = 5 ∨ i = 6 := by omega
    rcases hi2 with rfl | rfl | rfl | rfl | rfl | rfl | rfl
    all_goals first | rfl | (exfalso; omega)) (by decide) (ug_id ha).symm hpn
  exact this
theorem sp125_1 {d n p N L : Nat} {B : q_Bv} {G : q_Gi} {nx : Nat → Int} (hd : 3 ≤ d) (h : mrd G n nx) (hl : ltr G) (ha : G 82 11 = (p : Int)) (hpn : p ≤ n) : Sp d 125 [.ref 82, vI 16, vI 4] (hp N L B G) (some (vI (bI ((wrdS nx wdG p).1 = true)))) (hp N L B (ug G 82 11 ((wrdS nx wdG p).2 : Nat))) := by
  refine e125 (by omega) ?_
  simp (disch := omega) only [s125_0, s125_1, Int.toNat_natCast, Int.toNat_natCast, Nat.reduceAdd, Nat.reduceMul, Int.reduceToNat, Int.reduceAdd, Int.reduceLT, Int.reduceLE, Int.reduceEq, Int.reduceNeg, Int.reduceMul, Int.reduceSub, Nat.reduceSub, reduceIte, ite_true, ite_false, and_true, true_and, and_self]
  have := lp125 (d := d - 1) (n := n) (fr := 16) (ma := 4) (N := N) (L := L) (B := B) (G0 := G) (by omega) (by decide) h (wdG.take 4) 0 p G rfl (fun i hi => by
    have hi' : i < 4 := hi
    rw [hl _ (by omega)]
    have hi2 : i = 0 ∨ i = 1 ∨ i = 2 ∨ i = 3 ∨ i = 4 ∨ i = 5 ∨ i = 6 := by omega
    rcases hi2 with rfl | rfl | rfl | rfl | rfl | rfl | rfl
    all_goals first | rfl | (exfalso; omega)) (by decide) (ug_id ha).symm hpn
  exact this
theorem sp125_2 {d n p N L : Nat} {B : q_Bv} {G : q_Gi} {nx : Nat → Int} (hd : 3 ≤ d) (h : mrd G n nx) (hl : ltr G) (ha : G 82 11 = (p : Int)) (hpn : p ≤ n) : Sp d 125 [.ref 82, vI 5, vI 7] (hp N L B G) (some (vI (bI ((wrdS nx wdO p).1 = true)))) (hp N L B (ug G 82 11 ((wrdS nx wdO p).2 : Nat))) := by
  refine e125 (by omega) ?_
  simp (disch := omega) only [s125_0, s125_1, Int.toNat_natCast, Int.toNat_natCast, Nat.reduceAdd, Nat.reduceMul, Int.reduceToNat, Int.reduceAdd, Int.reduceLT, Int.reduceLE, Int.reduceEq, Int.reduceNeg, Int.reduceMul, Int.reduceSub, Nat.reduceSub, reduceIte, ite_true, ite_false, and_true, true_and, and_self]
  have := lp125 (d := d - 1) (n := n) (fr := 5) (ma := 7) (N := N) (L := L) (B := B) (G0 := G) (by omega) (by decide) h (wdO.take 7) 0 p G rfl (fun i hi => by
    have hi' : i < 7 := hi
    rw [hl _ (by omega)]
    have hi2 : i = 0 ∨ i = 1 ∨ i = 2 ∨ i = 3 ∨ i = 4 ∨ i = 5 ∨ i = 6 := by omega
    rcases hi2 with rfl | rfl | rfl | rfl | rfl | rfl | rfl
    all_goals first | rfl | (exfalso; omega)) (by decide) (ug_id ha).symm hpn
  exact this
theorem sp125_3 {d n p N L : Nat} {B : q_Bv} {G : q_Gi} {nx : Nat → Int} (hd : 3 ≤ d) (h : mrd G n nx) (hl : ltr G) (ha : G 82 11 = (p : Int)) (hpn : p ≤ n) : Sp d 125 [.ref 82, vI 0, vI 5] (hp N L B G) (some (vI (bI ((wrdS nx wdI p).1 = true)))) (hp N L B (ug G 82 11 ((wrdS nx wdI p).2 : Nat))) := by
  refine e125 (by omega) ?_
  simp (disch := omega) only [s125_0, s125_1, Int.toNat_natCast, Int.toNat_natCast, Nat.reduceAdd, Nat.reduceMul, Int.reduceToNat, Int.reduceAdd, Int.reduceLT, Int.reduceLE, Int.reduceEq, Int.reduceNeg, Int.reduceMul, Int.reduceSub, Nat.reduceSub, reduceIte, ite_true, ite_false, and_true, true_and, and_self]
  have := lp125 (d := d - 1) (n := n) (fr := 0) (ma := 5) (N := N) (L := L) (B := B) (G0 := G) (by omega) (by decide) h (wdI.take 5) 0 p G rfl (fun i hi => by
    have hi' : i < 5 := hi
    rw [hl _ (by omega)]
    have hi2 : i = 0 ∨ i = 1 ∨ i = 2 ∨ i = 3 ∨ i = 4 ∨ i = 5 ∨ i = 6 := by omega
    rcases hi2 with rfl | rfl | rfl | rfl | rfl | rfl | rfl
    all_goals first | rfl | (exfalso; omega)) (by decide) (ug_id ha).symm hpn
  exact this
theorem sp126 {d n p N L : Nat} {B : q_Bv} {G : q_Gi} {nx : Nat → Int} (hd : 2 ≤ d) (h : mrd G n nx) (ha : G 82 11 = (p : Int)) (hpn : p ≤ n) : Sp d 126 [.ref 82] (hp N L B G) (some (vI (bI (digS (nx p) = true)))) (hp N L B G) := by
  have h122 := sp122 (d := d - 1) (N := N) (L := L) (B := B) (by omega) h ha hpn
  have hr := nx_r h.2.2.2 p
  have h109 := sp109 (d := d - 1) (z := nx p) (lo := 48) (hi := 57) (X := hp N L B G) (by omega) (by omega) (by omega) (by omega)
  rw [bI_c (show (48 ≤ nx p ∧ nx p ≤ 57) ↔ digS (nx p) = true from digS_e.symm)] at h109
  refine e126 (by omega) ?_
  simp (disch := omega) only [s126_0, s126_1, s126_5, s126_7, s126_12, s126_12b, Int.toNat_natCast, Int.toNat_natCast, Nat.reduceAdd, Nat.reduceMul, Int.reduceToNat, Int.reduceAdd, Int.reduceLT, Int.reduceLE, Int.reduceEq, Int.reduceNeg, Int.reduceMul, Int.reduceSub, Nat.reduceSub, reduceIte, ite_true, ite_false, and_true, true_and, and_self, m126_2 h122, m126_9 h109]
theorem sp127 {d n p N L : Nat} {B : q_Bv} {G : q_Gi} {nx : Nat → Int} (hd : 3 ≤ d) (h : mrd G n nx) (ha : G 82 11 = (p : Int)) (hpn : p ≤ n) : ∃ G', Sp d 127 [.ref 82] (hp N L B G) (some (vI (bI (0 ≤ (numS nx p).1)))) (hp N L B G') ∧ G' 82 11 = ((numS nx p).2 : Int) ∧ (0 ≤ (numS nx p).1 → G' 82 12 = (numS nx p).1) ∧ (∀ a, a ≠ 82 → G' a = G a) ∧ ∀ k, k ≠ 11 → k ≠ 12 → G' 82 k = G 82 k := by
  have hn := h.2.1
  have ht := h.2.2.2
  have h126 := sp126 (d := d - 1) (N := N) (L := L) (B := B) (by omega) h ha hpn
  have hr := nx_r ht p
  unfold numS
  by_cases c1 : digS (nx p) = true
  · have d1 := digS_e.mp c1
    have l1 := txt_lt ht (c := nx p) (by omega) rfl
    rw [bI_t c1] at h126
    have m1 : mrd (ug G 82 12 0) n nx := mrd_u h (by omega)
    have a1 : ug G 82 12 0 82 11 = (p : Int) := by rw [ug_k (by omega)]; exact ha
    have h126a := sp126 (d := d - 1) (N := N) (L := L) (B := B) (by omega) m1 a1 hpn
    have h122a := sp122 (d := d - 1) (N := N) (L := L) (B := B) (by omega) m1 a1 hpn
    rw [bI_t c1] at h126a
    have m2 : mrd (ug (ug (ug G 82 12 0) 82 12 (0 + nx p - 48)) 82 11 ((p + 1 : Nat) : Int)) n nx := mrd_u (mrd_u m1 (by omega)) (by omega)
    have h126b := sp126 (d := d - 1) (p := p + 1) (N := N) (L := L) (B := B) (by omega) m2 ug_at (by omega)
    have h122b := sp122 (d := d - 1) (p := p + 1) (N := N) (L := L) (B := B) (by omega) m2 ug_at (by omega)
    have hr2 := nx_r ht (p + 1)
    have ep : (p : Int) + 1 = ((p + 1 : Nat) : Int) := rfl
    have ep2 : ((p + 1 : Nat) : Int) + 1 = ((p + 2 : Nat) : Int) := rfl
    by_cases c2 : digS (nx (p + 1)) = true
    · have d2 := digS_e.mp c2
      rw [bI_t c2] at h126b
      rw [if_pos c1, if_pos c2, bI_t (show 0 ≤ (nx p - 48) * 10 + (nx (p + 1) - 48) by omega)]
      refine ⟨ug (ug (ug (ug (ug G 82 12 0) 82 12 (0 + nx p - 48)) 82 11 ((p + 1 : Nat) : Int)) 82 12 (10 * (0 + nx p - 48) + nx (p + 1) - 48)) 82 11 ((p + 2 : Nat) : Int), ?_, ug_at, fun _ => by rw [ug_k (by omega), ug_at]; omega, fun a x => by rw [ug_ne x, ug_ne x, ug_ne x, ug_ne x, ug_ne x], fun k x y => by rw [ug_k x, ug_k y, ug_k x, ug_k y, ug_k y]⟩
      refine e127 (by omega) ?_
      simp (disch := omega) only [s127_0, s127_4, s127_4b, s127_7, s127_8, s127_8b, s127_9, s127_10, m127_11, s127_14, s127_15, s127_16, s127_17, s127_18, s127_21, s127_25, s127_25b, s127_28, s127_29, s127_31, m127_32, s127_35, s127_36, s127_40, s127_41, s127_43, m127_44, s127_47, s127_48, m127_49, s127_52, s127_53, m127_54, s127_57, s127_60, s127_63, s127_64, s127_64b, Int.toNat_natCast, Int.toNat_natCast, Nat.reduceAdd, Nat.reduceMul, Int.reduceToNat, Int.reduceAdd, Int.reduceLT, Int.reduceLE, Int.reduceEq, Int.reduceNeg, Int.reduceMul, Int.reduceSub, Nat.reduceSub, reduceIte, ite_true, ite_false, and_true, true_and, and_self, m127_1 h126, m127_22 h126a, ug_at, ug_k, m127_37 h122a, ha, ep, m127_22 h126b, m127_37 h122b, ep2]
    · rw [bI_f c2] at h126b
      rw [if_pos c1, if_neg c2, bI_t (show 0 ≤ nx p - 48 by omega)]
      refine ⟨ug (ug (ug G 82 12 0) 82 12 (0 + nx p - 48)) 82 11 ((p + 1 : Nat) : Int), ?_, ug_at, fun _ => by rw [ug_k (by omega), ug_at]; omega, fun a x => by rw [ug_ne x, ug_ne x, ug_ne x], fun k x y => by rw [ug_k x, ug_k y, ug_k y]⟩
      refine e127 (by omega) ?_
      simp (disch := omega) only [s127_0, s127_4, s127_4b, s127_7, s127_8, s127_8b, s127_9, s127_10, m127_11, s127_14, s127_15, s127_16, s127_17, s127_18, s127_21, s127_25, s127_25b, s127_28, s127_29, s127_31, m127_32, s127_35, s127_36, s127_40, s127_41, s127_43, m127_44, s127_47, s127_48, m127_49, s127_52, s127_53, m127_54, s127_57, s127_60, s127_63, s127_64, s127_64b, Int.toNat_natCast, Int.toNat_natCast, Nat.reduceAdd, Nat.reduceMul, Int.reduceToNat, Int.reduceAdd, Int.reduceLT, Int.reduceLE, Int.reduceEq, Int.reduceNeg, Int.reduceMul, Int.reduceSub, Nat.reduceSub, reduceIte, ite_true, ite_false, and_true, true_and, and_self, m127_1 h126, m127_22 h126a, ug_at, ug_k, m127_37 h122a, ha, ep, m127_22 h126b]
  · rw [bI_f c1] at h126
    rw [if_neg c1, bI_f (show ¬ (0 : Int) ≤ (-1, p).1 by simp only []; omega)]
    refine ⟨G, ?_, ha, fun e => absurd e (by simp only []; omega), fun _ _ => rfl, fun _ _ _ => rfl⟩
    refine e127 (by omega) ?_
    simp (disch := omega) only [s127_0, s127_4, s127_4b, s127_7, s127_8, s127_8b, s127_9, s127_10, m127_11, s127_14, s127_15, s127_16, s127_17, s127_18, s127_21, s127_25, s127_25b, s127_28, s127_29, s127_31, m127_32, s127_35, s127_36, s127_40, s127_41, s127_43, m127_44, s127_47, s127_48, m127_49, s127_52, s127_53, m127_54, s127_57, s127_60, s127_63, s127_64, s127_64b, Int.toNat_natCast, Int.toNat_natCast, Nat.reduceAdd, Nat.reduceMul, Int.reduceToNat, Int.reduceAdd, Int.reduceLT, Int.reduceLE, Int.reduceEq, Int.reduceNeg, Int.reduceMul, Int.reduceSub, Nat.reduceSub, reduceIte, ite_true, ite_false, and_true, true_and, and_self, m127_1 h126]
theorem sp131 {d : Nat} {c : Int} {X : q_H} (hd : 1 ≤ d) (hc : -1 ≤ c ∧ c ≤ 127) : Sp d 131 [.ref 82, vI c] X (some (vI (liS c))) X := by
  refine e131 (by omega) ?_
  have hk : c = 98 ∨ c = 102 ∨ c = 107 ∨ c = 118 ∨ c = 104 ∨ c = 100 ∨ (¬ c = 98 ∧ ¬ c = 102 ∧ ¬ c = 107 ∧ ¬ c = 118 ∧ ¬ c = 104 ∧ ¬ c = 100) := by omega
  rcases hk with rfl | rfl | rfl | rfl | rfl | rfl | ⟨n0, n1, n2, n3, n4, n5⟩
  all_goals try (simp (disch := omega) only [s131_0, s131_1, s131_60, s131_61, s131_62, s131_63, s131_64, s131_65, s131_66, s131_67, s131_68, s131_69, s131_70, s131_71, s131_72, s131_73, Int.toNat_natCast, Int.toNat_natCast, Nat.reduceAdd, Nat.reduceMul, Int.reduceToNat, Int.reduceAdd, Int.reduceLT, Int.reduceLE, Int.reduceEq, Int.reduceNeg, Int.reduceMul, Int.reduceSub, Nat.reduceSub, reduceIte, ite_true, ite_false, and_true, true_and, and_self]; rfl)
  simp (disch := omega) only [s131_0, s131_1, s131_60, s131_61, s131_62, s131_63, s131_64, s131_65, s131_66, s131_67, s131_68, s131_69, s131_70, s131_71, s131_72, s131_73, Int.toNat_natCast, Int.toNat_natCast, Nat.reduceAdd, Nat.reduceMul, Int.reduceToNat, Int.reduceAdd, Int.reduceLT, Int.reduceLE, Int.reduceEq, Int.reduceNeg, Int.reduceMul, Int.reduceSub, Nat.reduceSub, reduceIte, ite_true, ite_false, and_true, true_and, and_self, n0, n1, n2, n3, n4, n5, liS]
