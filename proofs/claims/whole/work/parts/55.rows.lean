/-! what is told by hand: P 0 j how many rows, P (1 + 3 j), P (2 + 3 j), P (3 + 3 j) their numbers; j: 0 the peal, 1 seen, 2 the feeding, 3 the book -/
theorem setS_ne {H : q_Gi} {a k b : Nat} {z : Int} (h : b ≠ a) : setS H a k z b = H b := by funext j; unfold setS; rw [if_neg (by omega)]
theorem setS_at {H : q_Gi} {a k : Nat} {z : Int} : setS H a k z a k = z := by unfold setS; rw [if_pos ⟨rfl, rfl⟩]
theorem setS_k {H : q_Gi} {a k b j : Nat} {z : Int} (h : j ≠ k) : setS H a k z b j = H b j := by unfold setS; rw [if_neg (by omega)]
def rv0 (G P : q_Gi) : Prop := G 23 0 = 10 ∧ G 23 1 = P 0 0 ∧ (∀ k, k < 10 → G 24 k = P 1 k) ∧ (∀ k, k < 10 → G 25 k = P 2 k) ∧ (∀ k, k < 10 → G 26 k = P 3 k)
def ri0 (G P : q_Gi) : Prop := G 40 1 = P 0 0 ∧ (∀ k, k < 10 → G 41 k = P 1 k) ∧ (∀ k, k < 10 → G 42 k = P 2 k) ∧ (∀ k, k < 10 → G 43 k = P 3 k)
def addP0 (P : q_Gi) (b x y : Int) : q_Gi := setS (setS (setS (setS P 1 (P 0 0).toNat b) 2 (P 0 0).toNat x) 3 (P 0 0).toNat y) 0 0 (P 0 0 + 1)
theorem rv0_f {G G' P P' : q_Gi} (h : rv0 G P) (e : ∀ a, 23 ≤ a → a ≤ 26 → G' a = G a) (e0 : P' 0 0 = P 0 0) (e1 : ∀ a, 1 ≤ a → a ≤ 3 → P' a = P a) : rv0 G' P' := by
  obtain ⟨a0, a1, a2, a3, a4⟩ := h
  refine ⟨?_, ?_, ?_, ?_, ?_⟩
  · rw [e _ (by omega) (by omega)]; exact a0
  · rw [e _ (by omega) (by omega), e0]; exact a1
  · rw [e _ (by omega) (by omega), e1 _ (by omega) (by omega)]; exact a2
  · rw [e _ (by omega) (by omega), e1 _ (by omega) (by omega)]; exact a3
  · rw [e _ (by omega) (by omega), e1 _ (by omega) (by omega)]; exact a4
theorem ri0_f {G G' P : q_Gi} (h : ri0 G P) (e : ∀ a, 40 ≤ a → a ≤ 43 → G' a = G a) : ri0 G' P := by
  obtain ⟨a1, a2, a3, a4⟩ := h
  refine ⟨?_, ?_, ?_, ?_⟩
  · rw [e _ (by omega) (by omega)]; exact a1
  · rw [e _ (by omega) (by omega)]; exact a2
  · rw [e _ (by omega) (by omega)]; exact a3
  · rw [e _ (by omega) (by omega)]; exact a4
def rv1 (G P : q_Gi) : Prop := G 27 0 = 5 ∧ G 27 1 = P 0 1 ∧ (∀ k, k < 10 → G 28 k = P 4 k) ∧ (∀ k, k < 10 → G 29 k = P 5 k) ∧ (∀ k, k < 10 → G 30 k = P 6 k)
def ri1 (G P : q_Gi) : Prop := G 44 1 = P 0 1 ∧ (∀ k, k < 10 → G 45 k = P 4 k) ∧ (∀ k, k < 10 → G 46 k = P 5 k) ∧ (∀ k, k < 10 → G 47 k = P 6 k)
def addP1 (P : q_Gi) (b x y : Int) : q_Gi := setS (setS (setS (setS P 4 (P 0 1).toNat b) 5 (P 0 1).toNat x) 6 (P 0 1).toNat y) 0 1 (P 0 1 + 1)
theorem rv1_f {G G' P P' : q_Gi} (h : rv1 G P) (e : ∀ a, 27 ≤ a → a ≤ 30 → G' a = G a) (e0 : P' 0 1 = P 0 1) (e1 : ∀ a, 4 ≤ a → a ≤ 6 → P' a = P a) : rv1 G' P' := by
  obtain ⟨a0, a1, a2, a3, a4⟩ := h
  refine ⟨?_, ?_, ?_, ?_, ?_⟩
  · rw [e _ (by omega) (by omega)]; exact a0
  · rw [e _ (by omega) (by omega), e0]; exact a1
  · rw [e _ (by omega) (by omega), e1 _ (by omega) (by omega)]; exact a2
  · rw [e _ (by omega) (by omega), e1 _ (by omega) (by omega)]; exact a3
  · rw [e _ (by omega) (by omega), e1 _ (by omega) (by omega)]; exact a4
theorem ri1_f {G G' P : q_Gi} (h : ri1 G P) (e : ∀ a, 44 ≤ a → a ≤ 47 → G' a = G a) : ri1 G' P := by
  obtain ⟨a1, a2, a3, a4⟩ := h
  refine ⟨?_, ?_, ?_, ?_⟩
  · rw [e _ (by omega) (by omega)]; exact a1
  · rw [e _ (by omega) (by omega)]; exact a2
  · rw [e _ (by omega) (by omega)]; exact a3
  · rw [e _ (by omega) (by omega)]; exact a4
def rv2 (G P : q_Gi) : Prop := G 31 0 = 10 ∧ G 31 1 = P 0 2 ∧ (∀ k, k < 10 → G 32 k = P 7 k) ∧ (∀ k, k < 10 → G 33 k = P 8 k) ∧ (∀ k, k < 10 → G 34 k = P 9 k)
def ri2 (G P : q_Gi) : Prop := G 48 1 = P 0 2 ∧ (∀ k, k < 10 → G 49 k = P 7 k) ∧ (∀ k, k < 10 → G 50 k = P 8 k) ∧ (∀ k, k < 10 → G 51 k = P 9 k)
def addP2 (P : q_Gi) (b x y : Int) : q_Gi := setS (setS (setS (setS P 7 (P 0 2).toNat b) 8 (P 0 2).toNat x) 9 (P 0 2).toNat y) 0 2 (P 0 2 + 1)
theorem rv2_f {G G' P P' : q_Gi} (h : rv2 G P) (e : ∀ a, 31 ≤ a → a ≤ 34 → G' a = G a) (e0 : P' 0 2 = P 0 2) (e1 : ∀ a, 7 ≤ a → a ≤ 9 → P' a = P a) : rv2 G' P' := by
  obtain ⟨a0, a1, a2, a3, a4⟩ := h
  refine ⟨?_, ?_, ?_, ?_, ?_⟩
  · rw [e _ (by omega) (by omega)]; exact a0
  · rw [e _ (by omega) (by omega), e0]; exact a1
  · rw [e _ (by omega) (by omega), e1 _ (by omega) (by omega)]; exact a2
  · rw [e _ (by omega) (by omega), e1 _ (by omega) (by omega)]; exact a3
  · rw [e _ (by omega) (by omega), e1 _ (by omega) (by omega)]; exact a4
theorem ri2_f {G G' P : q_Gi} (h : ri2 G P) (e : ∀ a, 48 ≤ a → a ≤ 51 → G' a = G a) : ri2 G' P := by
  obtain ⟨a1, a2, a3, a4⟩ := h
  refine ⟨?_, ?_, ?_, ?_⟩
  · rw [e _ (by omega) (by omega)]; exact a1
  · rw [e _ (by omega) (by omega)]; exact a2
  · rw [e _ (by omega) (by omega)]; exact a3
  · rw [e _ (by omega) (by omega)]; exact a4
def rv3 (G P : q_Gi) : Prop := G 35 0 = 8 ∧ G 35 1 = P 0 3 ∧ (∀ k, k < 10 → G 36 k = P 10 k) ∧ (∀ k, k < 10 → G 37 k = P 11 k) ∧ (∀ k, k < 10 → G 38 k = P 12 k)
def ri3 (G P : q_Gi) : Prop := G 52 1 = P 0 3 ∧ (∀ k, k < 10 → G 53 k = P 10 k) ∧ (∀ k, k < 10 → G 54 k = P 11 k) ∧ (∀ k, k < 10 → G 55 k = P 12 k)
def addP3 (P : q_Gi) (b x y : Int) : q_Gi := setS (setS (setS (setS P 10 (P 0 3).toNat b) 11 (P 0 3).toNat x) 12 (P 0 3).toNat y) 0 3 (P 0 3 + 1)
theorem rv3_f {G G' P P' : q_Gi} (h : rv3 G P) (e : ∀ a, 35 ≤ a → a ≤ 38 → G' a = G a) (e0 : P' 0 3 = P 0 3) (e1 : ∀ a, 10 ≤ a → a ≤ 12 → P' a = P a) : rv3 G' P' := by
  obtain ⟨a0, a1, a2, a3, a4⟩ := h
  refine ⟨?_, ?_, ?_, ?_, ?_⟩
  · rw [e _ (by omega) (by omega)]; exact a0
  · rw [e _ (by omega) (by omega), e0]; exact a1
  · rw [e _ (by omega) (by omega), e1 _ (by omega) (by omega)]; exact a2
  · rw [e _ (by omega) (by omega), e1 _ (by omega) (by omega)]; exact a3
  · rw [e _ (by omega) (by omega), e1 _ (by omega) (by omega)]; exact a4
theorem ri3_f {G G' P : q_Gi} (h : ri3 G P) (e : ∀ a, 52 ≤ a → a ≤ 55 → G' a = G a) : ri3 G' P := by
  obtain ⟨a1, a2, a3, a4⟩ := h
  refine ⟨?_, ?_, ?_, ?_⟩
  · rw [e _ (by omega) (by omega)]; exact a1
  · rw [e _ (by omega) (by omega)]; exact a2
  · rw [e _ (by omega) (by omega)]; exact a3
  · rw [e _ (by omega) (by omega)]; exact a4
def pv (G P : q_Gi) : Prop := rv0 G P ∧ rv1 G P ∧ rv2 G P ∧ rv3 G P
def pi' (G P : q_Gi) : Prop := ri0 G P ∧ ri1 G P ∧ ri2 G P ∧ ri3 G P
theorem pv_f {G G' P : q_Gi} (h : pv G P) (e : ∀ a, 23 ≤ a → a ≤ 38 → G' a = G a) : pv G' P := ⟨rv0_f h.1 (fun a h1 h2 => e a (by omega) (by omega)) rfl (fun _ _ _ => rfl), rv1_f h.2.1 (fun a h1 h2 => e a (by omega) (by omega)) rfl (fun _ _ _ => rfl), rv2_f h.2.2.1 (fun a h1 h2 => e a (by omega) (by omega)) rfl (fun _ _ _ => rfl), rv3_f h.2.2.2 (fun a h1 h2 => e a (by omega) (by omega)) rfl (fun _ _ _ => rfl)⟩
theorem pi'_f {G G' P : q_Gi} (h : pi' G P) (e : ∀ a, 40 ≤ a → a ≤ 55 → G' a = G a) : pi' G' P := ⟨ri0_f h.1 (fun a h1 h2 => e a (by omega) (by omega)), ri1_f h.2.1 (fun a h1 h2 => e a (by omega) (by omega)), ri2_f h.2.2.1 (fun a h1 h2 => e a (by omega) (by omega)), ri3_f h.2.2.2 (fun a h1 h2 => e a (by omega) (by omega))⟩
/-- what is told by hand is as it is told -/
def Pok (P : q_Gi) : Prop := (0 ≤ P 0 0 ∧ P 0 0 ≤ 10) ∧ (0 ≤ P 0 1 ∧ P 0 1 ≤ 5) ∧ (0 ≤ P 0 2 ∧ P 0 2 ≤ 10) ∧ (0 ≤ P 0 3 ∧ P 0 3 ≤ 8) ∧ (∀ k, k < 10 → 0 ≤ P 1 k ∧ P 1 k ≤ 5) ∧ (∀ k, k < 10 → 0 ≤ P 4 k ∧ P 4 k ≤ 5) ∧ (∀ k, k < 10 → 0 ≤ P 5 k ∧ P 5 k ≤ 99) ∧ (∀ k, k < 10 → 0 ≤ P 6 k ∧ P 6 k ≤ 30) ∧ (∀ k, k < 10 → 0 ≤ P 7 k ∧ P 7 k ≤ 6) ∧ (∀ k, k < 10 → P 7 k = 6 ∨ (0 ≤ P 8 k ∧ P 8 k ≤ 3)) ∧ (∀ k, k < 10 → 0 ≤ P 10 k ∧ P 10 k ≤ 5) ∧ (∀ k, k < 10 → 0 ≤ P 11 k ∧ P 11 k ≤ 99) ∧ (∀ k, k < 10 → -2147483648 ≤ P 8 k ∧ P 8 k ≤ 2147483647)
theorem pv_add0 {G P : q_Gi} {n : Nat} {b x y : Int} (h : pv G P) (hn : P 0 0 = (n : Int)) : pv (ug (ug (ug (ug G 24 n b) 25 n x) 26 n y) 23 1 ((n : Int) + 1)) (addP0 P b x y) := by
  have hfr : ∀ a, a ≠ 24 → a ≠ 25 → a ≠ 26 → a ≠ 23 → ug (ug (ug (ug G 24 n b) 25 n x) 26 n y) 23 1 ((n : Int) + 1) a = G a := by
    intro a h1 h2 h3 h4
    rw [ug_ne h4, ug_ne h3, ug_ne h2, ug_ne h1]
  have hp0 : ∀ a, a ≠ 1 → a ≠ 2 → a ≠ 3 → a ≠ 0 → addP0 P b x y a = P a := by
    intro a h1 h2 h3 h4
    unfold addP0
    rw [setS_ne h4, setS_ne h3, setS_ne h2, setS_ne h1]
  have hp1 : ∀ i, i ≠ 0 → addP0 P b x y 0 i = P 0 i := by
    intro i hi
    unfold addP0
    rw [setS_k hi, setS_ne (by omega), setS_ne (by omega), setS_ne (by omega)]
  obtain ⟨h0, h1, h2, h3⟩ := h
  have own : rv0 (ug (ug (ug (ug G 24 n b) 25 n x) 26 n y) 23 1 ((n : Int) + 1)) (addP0 P b x y) := by
    obtain ⟨a0, a1, a2, a3, a4⟩ := h0
    unfold addP0
    rw [hn, Int.toNat_natCast]
    refine ⟨?_, ?_, ?_, ?_, ?_⟩
    · simp (disch := omega) only [ug_k, ug_ne]; exact a0
    · rw [ug_at, setS_at]
    · intro k hk
      simp (disch := omega) only [ug_ne, setS_ne]
      by_cases e : k = n
      · rw [e, ug_at, setS_at]
      · rw [ug_k e, setS_k e]; exact a2 k hk
    · intro k hk
      simp (disch := omega) only [ug_ne, setS_ne]
      by_cases e : k = n
      · rw [e, ug_at, setS_at]
      · rw [ug_k e, setS_k e, ug_ne (by omega), setS_ne (by omega)]; exact a3 k hk
    · intro k hk
      simp (disch := omega) only [ug_ne, setS_ne]
      by_cases e : k = n
      · rw [e, ug_at, setS_at]
      · rw [ug_k e, setS_k e, ug_ne (by omega), setS_ne (by omega), ug_ne (by omega), setS_ne (by omega)]; exact a4 k hk
  refine ⟨?_, ?_, ?_, ?_⟩
  · first | exact own | exact rv0_f h0 (fun a _ _ => hfr a (by omega) (by omega) (by omega) (by omega)) (hp1 _ (by omega)) (fun a _ _ => hp0 a (by omega) (by omega) (by omega) (by omega))
  · first | exact own | exact rv1_f h1 (fun a _ _ => hfr a (by omega) (by omega) (by omega) (by omega)) (hp1 _ (by omega)) (fun a _ _ => hp0 a (by omega) (by omega) (by omega) (by omega))
  · first | exact own | exact rv2_f h2 (fun a _ _ => hfr a (by omega) (by omega) (by omega) (by omega)) (hp1 _ (by omega)) (fun a _ _ => hp0 a (by omega) (by omega) (by omega) (by omega))
  · first | exact own | exact rv3_f h3 (fun a _ _ => hfr a (by omega) (by omega) (by omega) (by omega)) (hp1 _ (by omega)) (fun a _ _ => hp0 a (by omega) (by omega) (by omega) (by omega))
theorem pv_wipe0 {G P : q_Gi} (h : pv G P) : pv (ug G 23 1 0) (setS P 0 0 0) := by
  obtain ⟨h0, h1, h2, h3⟩ := h
  have own : rv0 (ug G 23 1 0) (setS P 0 0 0) := by
    obtain ⟨a0, a1, a2, a3, a4⟩ := h0
    refine ⟨?_, ?_, ?_, ?_, ?_⟩
    · rw [ug_k (by omega)]; exact a0
    · rw [ug_at, setS_at]
    · rw [ug_ne (by omega), setS_ne (by omega)]; exact a2
    · rw [ug_ne (by omega), setS_ne (by omega)]; exact a3
    · rw [ug_ne (by omega), setS_ne (by omega)]; exact a4
  refine ⟨?_, ?_, ?_, ?_⟩
  · first | exact own | exact rv0_f h0 (fun a _ _ => ug_ne (by omega)) (setS_k (by omega)) (fun a _ _ => setS_ne (by omega))
  · first | exact own | exact rv1_f h1 (fun a _ _ => ug_ne (by omega)) (setS_k (by omega)) (fun a _ _ => setS_ne (by omega))
  · first | exact own | exact rv2_f h2 (fun a _ _ => ug_ne (by omega)) (setS_k (by omega)) (fun a _ _ => setS_ne (by omega))
  · first | exact own | exact rv3_f h3 (fun a _ _ => ug_ne (by omega)) (setS_k (by omega)) (fun a _ _ => setS_ne (by omega))
/-- a row comes to the 0th -/
def xadd0 (P : q_Gi) (b x y : Int) : Int × q_Gi := if P 0 0 < 10 then (P 0 0 + 1, addP0 P b x y) else (-4, P)
theorem sp35_0 {d N L : Nat} {b x y : Int} {B : q_Bv} {G P : q_Gi} (hd : 1 ≤ d) (hv : pv G P) (ho : Pok P) : ∃ G', Sp d 35 [.ref 23, vI b, vI x, vI y] (hp N L B G) (some (vI (xadd0 P b x y).1)) (hp N L B G') ∧ pv G' (xadd0 P b x y).2 ∧ ∀ a, (a < 23 ∨ 26 < a) → G' a = G a := by
  have w := hv
  obtain ⟨h0, h1, h2, h3⟩ := hv
  obtain ⟨a0, a1, a2, a3, a4⟩ := h0
  obtain ⟨n, hn⟩ : ∃ n : Nat, P 0 0 = (n : Int) := ⟨(P 0 0).toNat, by unfold Pok at ho; omega⟩
  have hn10 : n ≤ 10 := by unfold Pok at ho; omega
  by_cases c : P 0 0 < 10
  · have c2 : (n : Int) < 10 := by omega
    refine ⟨ug (ug (ug (ug G 24 n b) 25 n x) 26 n y) 23 1 ((n : Int) + 1), ?_, ?_, ?_⟩
    · refine e35 (by omega) ?_
      simp (disch := omega) only [s35_0, m35_1_23, m35_1_27, m35_1_31, m35_1_35, s35_4, m35_5_23, m35_5_27, m35_5_31, m35_5_35, s35_8, s35_11, s35_13, s35_14, m35_15_23, m35_15_27, m35_15_31, m35_15_35, s35_18, m35_19_23, m35_19_27, m35_19_31, m35_19_35, s35_22, m35_23_24, m35_23_28, m35_23_32, m35_23_36, s35_24, m35_25_23, m35_25_27, m35_25_31, m35_25_35, s35_28, m35_29_23, m35_29_27, m35_29_31, m35_29_35, s35_32, m35_33_25, m35_33_29, m35_33_33, m35_33_37, s35_34, m35_35_23, m35_35_27, m35_35_31, m35_35_35, s35_38, m35_39_23, m35_39_27, m35_39_31, m35_39_35, s35_42, m35_43_26, m35_43_30, m35_43_34, m35_43_38, s35_44, s35_45, m35_46_23, m35_46_27, m35_46_31, m35_46_35, s35_49, s35_50, m35_51_23, m35_51_27, m35_51_31, m35_51_35, s35_54, m35_55_23, m35_55_27, m35_55_31, m35_55_35, s35_58, Int.toNat_natCast, Int.toNat_natCast, Nat.reduceAdd, Nat.reduceMul, Int.reduceToNat, Int.reduceAdd, Int.reduceLT, Int.reduceLE, Int.reduceEq, Int.reduceNeg, Int.reduceMul, Int.reduceSub, Nat.reduceSub, reduceIte, ite_true, ite_false, and_true, true_and, and_self, a0, a1, hn, c2, ug_ne, ug_at, xadd0]
    · simp only [xadd0, if_pos c]
      exact pv_add0 w hn
    · intro a ha
      rw [ug_ne (by omega), ug_ne (by omega), ug_ne (by omega), ug_ne (by omega)]
  · have c2 : ¬ ((n : Int) < 10) := by omega
    refine ⟨G, ?_, ?_, fun _ _ => rfl⟩
    · refine e35 (by omega) ?_
      simp (disch := omega) only [s35_0, m35_1_23, m35_1_27, m35_1_31, m35_1_35, s35_4, m35_5_23, m35_5_27, m35_5_31, m35_5_35, s35_8, s35_11, s35_13, s35_14, m35_15_23, m35_15_27, m35_15_31, m35_15_35, s35_18, m35_19_23, m35_19_27, m35_19_31, m35_19_35, s35_22, m35_23_24, m35_23_28, m35_23_32, m35_23_36, s35_24, m35_25_23, m35_25_27, m35_25_31, m35_25_35, s35_28, m35_29_23, m35_29_27, m35_29_31, m35_29_35, s35_32, m35_33_25, m35_33_29, m35_33_33, m35_33_37, s35_34, m35_35_23, m35_35_27, m35_35_31, m35_35_35, s35_38, m35_39_23, m35_39_27, m35_39_31, m35_39_35, s35_42, m35_43_26, m35_43_30, m35_43_34, m35_43_38, s35_44, s35_45, m35_46_23, m35_46_27, m35_46_31, m35_46_35, s35_49, s35_50, m35_51_23, m35_51_27, m35_51_31, m35_51_35, s35_54, m35_55_23, m35_55_27, m35_55_31, m35_55_35, s35_58, Int.toNat_natCast, Int.toNat_natCast, Nat.reduceAdd, Nat.reduceMul, Int.reduceToNat, Int.reduceAdd, Int.reduceLT, Int.reduceLE, Int.reduceEq, Int.reduceNeg, Int.reduceMul, Int.reduceSub, Nat.reduceSub, reduceIte, ite_true, ite_false, and_true, true_and, and_self, a0, a1, hn, c2, xadd0]
    · simp only [xadd0, if_neg c]
      exact w
theorem sp36_0 {d N L : Nat} {B : q_Bv} {G : q_Gi} (hd : 1 ≤ d) : Sp d 36 [.ref 23] (hp N L B G) (some (vI 0)) (hp N L B (ug G 23 1 0)) := by
  refine e36 (by omega) ?_
  simp (disch := omega) only [s36_0, s36_1, m36_2_23, m36_2_27, m36_2_31, m36_2_35, s36_5, s36_6, Int.toNat_natCast, Int.toNat_natCast, Nat.reduceAdd, Nat.reduceMul, Int.reduceToNat, Int.reduceAdd, Int.reduceLT, Int.reduceLE, Int.reduceEq, Int.reduceNeg, Int.reduceMul, Int.reduceSub, Nat.reduceSub, reduceIte, ite_true, ite_false, and_true, true_and, and_self]
theorem pv_add1 {G P : q_Gi} {n : Nat} {b x y : Int} (h : pv G P) (hn : P 0 1 = (n : Int)) : pv (ug (ug (ug (ug G 28 n b) 29 n x) 30 n y) 27 1 ((n : Int) + 1)) (addP1 P b x y) := by
  have hfr : ∀ a, a ≠ 28 → a ≠ 29 → a ≠ 30 → a ≠ 27 → ug (ug (ug (ug G 28 n b) 29 n x) 30 n y) 27 1 ((n : Int) + 1) a = G a := by
    intro a h1 h2 h3 h4
    rw [ug_ne h4, ug_ne h3, ug_ne h2, ug_ne h1]
  have hp0 : ∀ a, a ≠ 4 → a ≠ 5 → a ≠ 6 → a ≠ 0 → addP1 P b x y a = P a := by
    intro a h1 h2 h3 h4
    unfold addP1
    rw [setS_ne h4, setS_ne h3, setS_ne h2, setS_ne h1]
  have hp1 : ∀ i, i ≠ 1 → addP1 P b x y 0 i = P 0 i := by
    intro i hi
    unfold addP1
    rw [setS_k hi, setS_ne (by omega), setS_ne (by omega), setS_ne (by omega)]
  obtain ⟨h0, h1, h2, h3⟩ := h
  have own : rv1 (ug (ug (ug (ug G 28 n b) 29 n x) 30 n y) 27 1 ((n : Int) + 1)) (addP1 P b x y) := by
    obtain ⟨a0, a1, a2, a3, a4⟩ := h1
    unfold addP1
    rw [hn, Int.toNat_natCast]
    refine ⟨?_, ?_, ?_, ?_, ?_⟩
    · simp (disch := omega) only [ug_k, ug_ne]; exact a0
    · rw [ug_at, setS_at]
    · intro k hk
      simp (disch := omega) only [ug_ne, setS_ne]
      by_cases e : k = n
      · rw [e, ug_at, setS_at]
      · rw [ug_k e, setS_k e]; exact a2 k hk
    · intro k hk
      simp (disch := omega) only [ug_ne, setS_ne]
      by_cases e : k = n
      · rw [e, ug_at, setS_at]
      · rw [ug_k e, setS_k e, ug_ne (by omega), setS_ne (by omega)]; exact a3 k hk
    · intro k hk
      simp (disch := omega) only [ug_ne, setS_ne]
      by_cases e : k = n
      · rw [e, ug_at, setS_at]
      · rw [ug_k e, setS_k e, ug_ne (by omega), setS_ne (by omega), ug_ne (by omega), setS_ne (by omega)]; exact a4 k hk
  refine ⟨?_, ?_, ?_, ?_⟩
  · first | exact own | exact rv0_f h0 (fun a _ _ => hfr a (by omega) (by omega) (by omega) (by omega)) (hp1 _ (by omega)) (fun a _ _ => hp0 a (by omega) (by omega) (by omega) (by omega))
  · first | exact own | exact rv1_f h1 (fun a _ _ => hfr a (by omega) (by omega) (by omega) (by omega)) (hp1 _ (by omega)) (fun a _ _ => hp0 a (by omega) (by omega) (by omega) (by omega))
  · first | exact own | exact rv2_f h2 (fun a _ _ => hfr a (by omega) (by omega) (by omega) (by omega)) (hp1 _ (by omega)) (fun a _ _ => hp0 a (by omega) (by omega) (by omega) (by omega))
  · first | exact own | exact rv3_f h3 (fun a _ _ => hfr a (by omega) (by omega) (by omega) (by omega)) (hp1 _ (by omega)) (fun a _ _ => hp0 a (by omega) (by omega) (by omega) (by omega))
theorem pv_wipe1 {G P : q_Gi} (h : pv G P) : pv (ug G 27 1 0) (setS P 0 1 0) := by
  obtain ⟨h0, h1, h2, h3⟩ := h
  have own : rv1 (ug G 27 1 0) (setS P 0 1 0) := by
    obtain ⟨a0, a1, a2, a3, a4⟩ := h1
    refine ⟨?_, ?_, ?_, ?_, ?_⟩
    · rw [ug_k (by omega)]; exact a0
    · rw [ug_at, setS_at]
    · rw [ug_ne (by omega), setS_ne (by omega)]; exact a2
    · rw [ug_ne (by omega), setS_ne (by omega)]; exact a3
    · rw [ug_ne (by omega), setS_ne (by omega)]; exact a4
  refine ⟨?_, ?_, ?_, ?_⟩
  · first | exact own | exact rv0_f h0 (fun a _ _ => ug_ne (by omega)) (setS_k (by omega)) (fun a _ _ => setS_ne (by omega))
  · first | exact own | exact rv1_f h1 (fun a _ _ => ug_ne (by omega)) (setS_k (by omega)) (fun a _ _ => setS_ne (by omega))
  · first | exact own | exact rv2_f h2 (fun a _ _ => ug_ne (by omega)) (setS_k (by omega)) (fun a _ _ => setS_ne (by omega))
  · first | exact own | exact rv3_f h3 (fun a _ _ => ug_ne (by omega)) (setS_k (by omega)) (fun a _ _ => setS_ne (by omega))
/-- a row comes to the 1th -/
def xadd1 (P : q_Gi) (b x y : Int) : Int × q_Gi := if P 0 1 < 5 then (P 0 1 + 1, addP1 P b x y) else (-4, P)
theorem sp35_1 {d N L : Nat} {b x y : Int} {B : q_Bv} {G P : q_Gi} (hd : 1 ≤ d) (hv : pv G P) (ho : Pok P) : ∃ G', Sp d 35 [.ref 27, vI b, vI x, vI y] (hp N L B G) (some (vI (xadd1 P b x y).1)) (hp N L B G') ∧ pv G' (xadd1 P b x y).2 ∧ ∀ a, (a < 27 ∨ 30 < a) → G' a = G a := by
  have w := hv
  obtain ⟨h0, h1, h2, h3⟩ := hv
  obtain ⟨a0, a1, a2, a3, a4⟩ := h1
  obtain ⟨n, hn⟩ : ∃ n : Nat, P 0 1 = (n : Int) := ⟨(P 0 1).toNat, by unfold Pok at ho; omega⟩
  have hn10 : n ≤ 10 := by unfold Pok at ho; omega
  by_cases c : P 0 1 < 5
  · have c2 : (n : Int) < 5 := by omega
    refine ⟨ug (ug (ug (ug G 28 n b) 29 n x) 30 n y) 27 1 ((n : Int) + 1), ?_, ?_, ?_⟩
    · refine e35 (by omega) ?_
      simp (disch := omega) only [s35_0, m35_1_23, m35_1_27, m35_1_31, m35_1_35, s35_4, m35_5_23, m35_5_27, m35_5_31, m35_5_35, s35_8, s35_11, s35_13, s35_14, m35_15_23, m35_15_27, m35_15_31, m35_15_35, s35_18, m35_19_23, m35_19_27, m35_19_31, m35_19_35, s35_22, m35_23_24, m35_23_28, m35_23_32, m35_23_36, s35_24, m35_25_23, m35_25_27, m35_25_31, m35_25_35, s35_28, m35_29_23, m35_29_27, m35_29_31, m35_29_35, s35_32, m35_33_25, m35_33_29, m35_33_33, m35_33_37, s35_34, m35_35_23, m35_35_27, m35_35_31, m35_35_35, s35_38, m35_39_23, m35_39_27, m35_39_31, m35_39_35, s35_42, m35_43_26, m35_43_30, m35_43_34, m35_43_38, s35_44, s35_45, m35_46_23, m35_46_27, m35_46_31, m35_46_35, s35_49, s35_50, m35_51_23, m35_51_27, m35_51_31, m35_51_35, s35_54, m35_55_23, m35_55_27, m35_55_31, m35_55_35, s35_58, Int.toNat_natCast, Int.toNat_natCast, Nat.reduceAdd, Nat.reduceMul, Int.reduceToNat, Int.reduceAdd, Int.reduceLT, Int.reduceLE, Int.reduceEq, Int.reduceNeg, Int.reduceMul, Int.reduceSub, Nat.reduceSub, reduceIte, ite_true, ite_false, and_true, true_and, and_self, a0, a1, hn, c2, ug_ne, ug_at, xadd1]
    · simp only [xadd1, if_pos c]
      exact pv_add1 w hn
    · intro a ha
      rw [ug_ne (by omega), ug_ne (by omega), ug_ne (by omega), ug_ne (by omega)]
  · have c2 : ¬ ((n : Int) < 5) := by omega
    refine ⟨G, ?_, ?_, fun _ _ => rfl⟩
    · refine e35 (by omega) ?_
      simp (disch := omega) only [s35_0, m35_1_23, m35_1_27, m35_1_31, m35_1_35, s35_4, m35_5_23, m35_5_27, m35_5_31, m35_5_35, s35_8, s35_11, s35_13, s35_14, m35_15_23, m35_15_27, m35_15_31, m35_15_35, s35_18, m35_19_23, m35_19_27, m35_19_31, m35_19_35, s35_22, m35_23_24, m35_23_28, m35_23_32, m35_23_36, s35_24, m35_25_23, m35_25_27, m35_25_31, m35_25_35, s35_28, m35_29_23, m35_29_27, m35_29_31, m35_29_35, s35_32, m35_33_25, m35_33_29, m35_33_33, m35_33_37, s35_34, m35_35_23, m35_35_27, m35_35_31, m35_35_35, s35_38, m35_39_23, m35_39_27, m35_39_31, m35_39_35, s35_42, m35_43_26, m35_43_30, m35_43_34, m35_43_38, s35_44, s35_45, m35_46_23, m35_46_27, m35_46_31, m35_46_35, s35_49, s35_50, m35_51_23, m35_51_27, m35_51_31, m35_51_35, s35_54, m35_55_23, m35_55_27, m35_55_31, m35_55_35, s35_58, Int.toNat_natCast, Int.toNat_natCast, Nat.reduceAdd, Nat.reduceMul, Int.reduceToNat, Int.reduceAdd, Int.reduceLT, Int.reduceLE, Int.reduceEq, Int.reduceNeg, Int.reduceMul, Int.reduceSub, Nat.reduceSub, reduceIte, ite_true, ite_false, and_true, true_and, and_self, a0, a1, hn, c2, xadd1]
    · simp only [xadd1, if_neg c]
      exact w
theorem sp36_1 {d N L : Nat} {B : q_Bv} {G : q_Gi} (hd : 1 ≤ d) : Sp d 36 [.ref 27] (hp N L B G) (some (vI 0)) (hp N L B (ug G 27 1 0)) := by
  refine e36 (by omega) ?_
  simp (disch := omega) only [s36_0, s36_1, m36_2_23, m36_2_27, m36_2_31, m36_2_35, s36_5, s36_6, Int.toNat_natCast, Int.toNat_natCast, Nat.reduceAdd, Nat.reduceMul, Int.reduceToNat, Int.reduceAdd, Int.reduceLT, Int.reduceLE, Int.reduceEq, Int.reduceNeg, Int.reduceMul, Int.reduceSub, Nat.reduceSub, reduceIte, ite_true, ite_false, and_true, true_and, and_self]
theorem pv_add2 {G P : q_Gi} {n : Nat} {b x y : Int} (h : pv G P) (hn : P 0 2 = (n : Int)) : pv (ug (ug (ug (ug G 32 n b) 33 n x) 34 n y) 31 1 ((n : Int) + 1)) (addP2 P b x y) := by
  have hfr : ∀ a, a ≠ 32 → a ≠ 33 → a ≠ 34 → a ≠ 31 → ug (ug (ug (ug G 32 n b) 33 n x) 34 n y) 31 1 ((n : Int) + 1) a = G a := by
    intro a h1 h2 h3 h4
    rw [ug_ne h4, ug_ne h3, ug_ne h2, ug_ne h1]
  have hp0 : ∀ a, a ≠ 7 → a ≠ 8 → a ≠ 9 → a ≠ 0 → addP2 P b x y a = P a := by
    intro a h1 h2 h3 h4
    unfold addP2
    rw [setS_ne h4, setS_ne h3, setS_ne h2, setS_ne h1]
  have hp1 : ∀ i, i ≠ 2 → addP2 P b x y 0 i = P 0 i := by
    intro i hi
    unfold addP2
    rw [setS_k hi, setS_ne (by omega), setS_ne (by omega), setS_ne (by omega)]
  obtain ⟨h0, h1, h2, h3⟩ := h
  have own : rv2 (ug (ug (ug (ug G 32 n b) 33 n x) 34 n y) 31 1 ((n : Int) + 1)) (addP2 P b x y) := by
    obtain ⟨a0, a1, a2, a3, a4⟩ := h2
    unfold addP2
    rw [hn, Int.toNat_natCast]
    refine ⟨?_, ?_, ?_, ?_, ?_⟩
    · simp (disch := omega) only [ug_k, ug_ne]; exact a0
    · rw [ug_at, setS_at]
    · intro k hk
      simp (disch := omega) only [ug_ne, setS_ne]
      by_cases e : k = n
      · rw [e, ug_at, setS_at]
      · rw [ug_k e, setS_k e]; exact a2 k hk
    · intro k hk
      simp (disch := omega) only [ug_ne, setS_ne]
      by_cases e : k = n
      · rw [e, ug_at, setS_at]
      · rw [ug_k e, setS_k e, ug_ne (by omega), setS_ne (by omega)]; exact a3 k hk
    · intro k hk
      simp (disch := omega) only [ug_ne, setS_ne]
      by_cases e : k = n
      · rw [e, ug_at, setS_at]
      · rw [ug_k e, setS_k e, ug_ne (by omega), setS_ne (by omega), ug_ne (by omega), setS_ne (by omega)]; exact a4 k hk
  refine ⟨?_, ?_, ?_, ?_⟩
  · first | exact own | exact rv0_f h0 (fun a _ _ => hfr a (by omega) (by omega) (by omega) (by omega)) (hp1 _ (by omega)) (fun a _ _ => hp0 a (by omega) (by omega) (by omega) (by omega))
  · first | exact own | exact rv1_f h1 (fun a _ _ => hfr a (by omega) (by omega) (by omega) (by omega)) (hp1 _ (by omega)) (fun a _ _ => hp0 a (by omega) (by omega) (by omega) (by omega))
  · first | exact own | exact rv2_f h2 (fun a _ _ => hfr a (by omega) (by omega) (by omega) (by omega)) (hp1 _ (by omega)) (fun a _ _ => hp0 a (by omega) (by omega) (by omega) (by omega))
  · first | exact own | exact rv3_f h3 (fun a _ _ => hfr a (by omega) (by omega) (by omega) (by omega)) (hp1 _ (by omega)) (fun a _ _ => hp0 a (by omega) (by omega) (by omega) (by omega))
theorem pv_wipe2 {G P : q_Gi} (h : pv G P) : pv (ug G 31 1 0) (setS P 0 2 0) := by
  obtain ⟨h0, h1, h2, h3⟩ := h
  have own : rv2 (ug G 31 1 0) (setS P 0 2 0) := by
    obtain ⟨a0, a1, a2, a3, a4⟩ := h2
    refine ⟨?_, ?_, ?_, ?_, ?_⟩
    · rw [ug_k (by omega)]; exact a0
    · rw [ug_at, setS_at]
    · rw [ug_ne (by omega), setS_ne (by omega)]; exact a2
    · rw [ug_ne (by omega), setS_ne (by omega)]; exact a3
    · rw [ug_ne (by omega), setS_ne (by omega)]; exact a4
  refine ⟨?_, ?_, ?_, ?_⟩
  · first | exact own | exact rv0_f h0 (fun a _ _ => ug_ne (by omega)) (setS_k (by omega)) (fun a _ _ => setS_ne (by omega))
  · first | exact own | exact rv1_f h1 (fun a _ _ => ug_ne (by omega)) (setS_k (by omega)) (fun a _ _ => setS_ne (by omega))
  · first | exact own | exact rv2_f h2 (fun a _ _ => ug_ne (by omega)) (setS_k (by omega)) (fun a _ _ => setS_ne (by omega))
  · first | exact own | exact rv3_f h3 (fun a _ _ => ug_ne (by omega)) (setS_k (by omega)) (fun a _ _ => setS_ne (by omega))
/-- a row comes to the 2th -/
def xadd2 (P : q_Gi) (b x y : Int) : Int × q_Gi := if P 0 2 < 10 then (P 0 2 + 1, addP2 P b x y) else (-4, P)
theorem sp35_2 {d N L : Nat} {b x y : Int} {B : q_Bv} {G P : q_Gi} (hd : 1 ≤ d) (hv : pv G P) (ho : Pok P) : ∃ G', Sp d 35 [.ref 31, vI b, vI x, vI y] (hp N L B G) (some (vI (xadd2 P b x y).1)) (hp N L B G') ∧ pv G' (xadd2 P b x y).2 ∧ ∀ a, (a < 31 ∨ 34 < a) → G' a = G a := by
  have w := hv
  obtain ⟨h0, h1, h2, h3⟩ := hv
  obtain ⟨a0, a1, a2, a3, a4⟩ := h2
  obtain ⟨n, hn⟩ : ∃ n : Nat, P 0 2 = (n : Int) := ⟨(P 0 2).toNat, by unfold Pok at ho; omega⟩
  have hn10 : n ≤ 10 := by unfold Pok at ho; omega
  by_cases c : P 0 2 < 10
  · have c2 : (n : Int) < 10 := by omega
    refine ⟨ug (ug (ug (ug G 32 n b) 33 n x) 34 n y) 31 1 ((n : Int) + 1), ?_, ?_, ?_⟩
    · refine e35 (by omega) ?_
      simp (disch := omega) only [s35_0, m35_1_23, m35_1_27, m35_1_31, m35_1_35, s35_4, m35_5_23, m35_5_27, m35_5_31, m35_5_35, s35_8, s35_11, s35_13, s35_14, m35_15_23, m35_15_27, m35_15_31, m35_15_35, s35_18, m35_19_23, m35_19_27, m35_19_31, m35_19_35, s35_22, m35_23_24, m35_23_28, m35_23_32, m35_23_36, s35_24, m35_25_23, m35_25_27, m35_25_31, m35_25_35, s35_28, m35_29_23, m35_29_27, m35_29_31, m35_29_35, s35_32, m35_33_25, m35_33_29, m35_33_33, m35_33_37, s35_34, m35_35_23, m35_35_27, m35_35_31, m35_35_35, s35_38, m35_39_23, m35_39_27, m35_39_31, m35_39_35, s35_42, m35_43_26, m35_43_30, m35_43_34, m35_43_38, s35_44, s35_45, m35_46_23, m35_46_27, m35_46_31, m35_46_35, s35_49, s35_50, m35_51_23, m35_51_27, m35_51_31, m35_51_35, s35_54, m35_55_23, m35_55_27, m35_55_31, m35_55_35, s35_58, Int.toNat_natCast, Int.toNat_natCast, Nat.reduceAdd, Nat.reduceMul, Int.reduceToNat, Int.reduceAdd, Int.reduceLT, Int.reduceLE, Int.reduceEq, Int.reduceNeg, Int.reduceMul, Int.reduceSub, Nat.reduceSub, reduceIte, ite_true, ite_false, and_true, true_and, and_self, a0, a1, hn, c2, ug_ne, ug_at, xadd2]
    · simp only [xadd2, if_pos c]
      exact pv_add2 w hn
    · intro a ha
      rw [ug_ne (by omega), ug_ne (by omega), ug_ne (by omega), ug_ne (by omega)]
  · have c2 : ¬ ((n : Int) < 10) := by omega
    refine ⟨G, ?_, ?_, fun _ _ => rfl⟩
    · refine e35 (by omega) ?_
      simp (disch := omega) only [s35_0, m35_1_23, m35_1_27, m35_1_31, m35_1_35, s35_4, m35_5_23, m35_5_27, m35_5_31, m35_5_35, s35_8, s35_11, s35_13, s35_14, m35_15_23, m35_15_27, m35_15_31, m35_15_35, s35_18, m35_19_23, m35_19_27, m35_19_31, m35_19_35, s35_22, m35_23_24, m35_23_28, m35_23_32, m35_23_36, s35_24, m35_25_23, m35_25_27, m35_25_31, m35_25_35, s35_28, m35_29_23, m35_29_27, m35_29_31, m35_29_35, s35_32, m35_33_25, m35_33_29, m35_33_33, m35_33_37, s35_34, m35_35_23, m35_35_27, m35_35_31, m35_35_35, s35_38, m35_39_23, m35_39_27, m35_39_31, m35_39_35, s35_42, m35_43_26, m35_43_30, m35_43_34, m35_43_38, s35_44, s35_45, m35_46_23, m35_46_27, m35_46_31, m35_46_35, s35_49, s35_50, m35_51_23, m35_51_27, m35_51_31, m35_51_35, s35_54, m35_55_23, m35_55_27, m35_55_31, m35_55_35, s35_58, Int.toNat_natCast, Int.toNat_natCast, Nat.reduceAdd, Nat.reduceMul, Int.reduceToNat, Int.reduceAdd, Int.reduceLT, Int.reduceLE, Int.reduceEq, Int.reduceNeg, Int.reduceMul, Int.reduceSub, Nat.reduceSub, reduceIte, ite_true, ite_false, and_true, true_and, and_self, a0, a1, hn, c2, xadd2]
    · simp only [xadd2, if_neg c]
      exact w
theorem sp36_2 {d N L : Nat} {B : q_Bv} {G : q_Gi} (hd : 1 ≤ d) : Sp d 36 [.ref 31] (hp N L B G) (some (vI 0)) (hp N L B (ug G 31 1 0)) := by
  refine e36 (by omega) ?_
  simp (disch := omega) only [s36_0, s36_1, m36_2_23, m36_2_27, m36_2_31, m36_2_35, s36_5, s36_6, Int.toNat_natCast, Int.toNat_natCast, Nat.reduceAdd, Nat.reduceMul, Int.reduceToNat, Int.reduceAdd, Int.reduceLT, Int.reduceLE, Int.reduceEq, Int.reduceNeg, Int.reduceMul, Int.reduceSub, Nat.reduceSub, reduceIte, ite_true, ite_false, and_true, true_and, and_self]
theorem pv_add3 {G P : q_Gi} {n : Nat} {b x y : Int} (h : pv G P) (hn : P 0 3 = (n : Int)) : pv (ug (ug (ug (ug G 36 n b) 37 n x) 38 n y) 35 1 ((n : Int) + 1)) (addP3 P b x y) := by
  have hfr : ∀ a, a ≠ 36 → a ≠ 37 → a ≠ 38 → a ≠ 35 → ug (ug (ug (ug G 36 n b) 37 n x) 38 n y) 35 1 ((n : Int) + 1) a = G a := by
    intro a h1 h2 h3 h4
    rw [ug_ne h4, ug_ne h3, ug_ne h2, ug_ne h1]
  have hp0 : ∀ a, a ≠ 10 → a ≠ 11 → a ≠ 12 → a ≠ 0 → addP3 P b x y a = P a := by
    intro a h1 h2 h3 h4
    unfold addP3
    rw [setS_ne h4, setS_ne h3, setS_ne h2, setS_ne h1]
  have hp1 : ∀ i, i ≠ 3 → addP3 P b x y 0 i = P 0 i := by
    intro i hi
    unfold addP3
    rw [setS_k hi, setS_ne (by omega), setS_ne (by omega), setS_ne (by omega)]
  obtain ⟨h0, h1, h2, h3⟩ := h
  have own : rv3 (ug (ug (ug (ug G 36 n b) 37 n x) 38 n y) 35 1 ((n : Int) + 1)) (addP3 P b x y) := by
    obtain ⟨a0, a1, a2, a3, a4⟩ := h3
    unfold addP3
    rw [hn, Int.toNat_natCast]
    refine ⟨?_, ?_, ?_, ?_, ?_⟩
    · simp (disch := omega) only [ug_k, ug_ne]; exact a0
    · rw [ug_at, setS_at]
    · intro k hk
      simp (disch := omega) only [ug_ne, setS_ne]
      by_cases e : k = n
      · rw [e, ug_at, setS_at]
      · rw [ug_k e, setS_k e]; exact a2 k hk
    · intro k hk
      simp (disch := omega) only [ug_ne, setS_ne]
      by_cases e : k = n
      · rw [e, ug_at, setS_at]
      · rw [ug_k e, setS_k e, ug_ne (by omega), setS_ne (by omega)]; exact a3 k hk
    · intro k hk
      simp (disch := omega) only [ug_ne, setS_ne]
      by_cases e : k = n
      · rw [e, ug_at, setS_at]
      · rw [ug_k e, setS_k e, ug_ne (by omega), setS_ne (by omega), ug_ne (by omega), setS_ne (by omega)]; exact a4 k hk
  refine ⟨?_, ?_, ?_, ?_⟩
  · first | exact own | exact rv0_f h0 (fun a _ _ => hfr a (by omega) (by omega) (by omega) (by omega)) (hp1 _ (by omega)) (fun a _ _ => hp0 a (by omega) (by omega) (by omega) (by omega))
  · first | exact own | exact rv1_f h1 (fun a _ _ => hfr a (by omega) (by omega) (by omega) (by omega)) (hp1 _ (by omega)) (fun a _ _ => hp0 a (by omega) (by omega) (by omega) (by omega))
  · first | exact own | exact rv2_f h2 (fun a _ _ => hfr a (by omega) (by omega) (by omega) (by omega)) (hp1 _ (by omega)) (fun a _ _ => hp0 a (by omega) (by omega) (by omega) (by omega))
  · first | exact own | exact rv3_f h3 (fun a _ _ => hfr a (by omega) (by omega) (by omega) (by omega)) (hp1 _ (by omega)) (fun a _ _ => hp0 a (by omega) (by omega) (by omega) (by omega))
theorem pv_wipe3 {G P : q_Gi} (h : pv G P) : pv (ug G 35 1 0) (setS P 0 3 0) := by
  obtain ⟨h0, h1, h2, h3⟩ := h
  have own : rv3 (ug G 35 1 0) (setS P 0 3 0) := by
    obtain ⟨a0, a1, a2, a3, a4⟩ := h3
    refine ⟨?_, ?_, ?_, ?_, ?_⟩
    · rw [ug_k (by omega)]; exact a0
    · rw [ug_at, setS_at]
    · rw [ug_ne (by omega), setS_ne (by omega)]; exact a2
    · rw [ug_ne (by omega), setS_ne (by omega)]; exact a3
    · rw [ug_ne (by omega), setS_ne (by omega)]; exact a4
  refine ⟨?_, ?_, ?_, ?_⟩
  · first | exact own | exact rv0_f h0 (fun a _ _ => ug_ne (by omega)) (setS_k (by omega)) (fun a _ _ => setS_ne (by omega))
  · first | exact own | exact rv1_f h1 (fun a _ _ => ug_ne (by omega)) (setS_k (by omega)) (fun a _ _ => setS_ne (by omega))
  · first | exact own | exact rv2_f h2 (fun a _ _ => ug_ne (by omega)) (setS_k (by omega)) (fun a _ _ => setS_ne (by omega))
  · first | exact own | exact rv3_f h3 (fun a _ _ => ug_ne (by omega)) (setS_k (by omega)) (fun a _ _ => setS_ne (by omega))
/-- a row comes to the 3th -/
def xadd3 (P : q_Gi) (b x y : Int) : Int × q_Gi := if P 0 3 < 8 then (P 0 3 + 1, addP3 P b x y) else (-4, P)
theorem sp35_3 {d N L : Nat} {b x y : Int} {B : q_Bv} {G P : q_Gi} (hd : 1 ≤ d) (hv : pv G P) (ho : Pok P) : ∃ G', Sp d 35 [.ref 35, vI b, vI x, vI y] (hp N L B G) (some (vI (xadd3 P b x y).1)) (hp N L B G') ∧ pv G' (xadd3 P b x y).2 ∧ ∀ a, (a < 35 ∨ 38 < a) → G' a = G a := by
  have w := hv
  obtain ⟨h0, h1, h2, h3⟩ := hv
  obtain ⟨a0, a1, a2, a3, a4⟩ := h3
  obtain ⟨n, hn⟩ : ∃ n : Nat, P 0 3 = (n : Int) := ⟨(P 0 3).toNat, by unfold Pok at ho; omega⟩
  have hn10 : n ≤ 10 := by unfold Pok at ho; omega
  by_cases c : P 0 3 < 8
  · have c2 : (n : Int) < 8 := by omega
    refine ⟨ug (ug (ug (ug G 36 n b) 37 n x) 38 n y) 35 1 ((n : Int) + 1), ?_, ?_, ?_⟩
    · refine e35 (by omega) ?_
      simp (disch := omega) only [s35_0, m35_1_23, m35_1_27, m35_1_31, m35_1_35, s35_4, m35_5_23, m35_5_27, m35_5_31, m35_5_35, s35_8, s35_11, s35_13, s35_14, m35_15_23, m35_15_27, m35_15_31, m35_15_35, s35_18, m35_19_23, m35_19_27, m35_19_31, m35_19_35, s35_22, m35_23_24, m35_23_28, m35_23_32, m35_23_36, s35_24, m35_25_23, m35_25_27, m35_25_31, m35_25_35, s35_28, m35_29_23, m35_29_27, m35_29_31, m35_29_35, s35_32, m35_33_25, m35_33_29, m35_33_33, m35_33_37, s35_34, m35_35_23, m35_35_27, m35_35_31, m35_35_35, s35_38, m35_39_23, m35_39_27, m35_39_31, m35_39_35, s35_42, m35_43_26, m35_43_30, m35_43_34, m35_43_38, s35_44, s35_45, m35_46_23, m35_46_27, m35_46_31, m35_46_35, s35_49, s35_50, m35_51_23, m35_51_27, m35_51_31, m35_51_35, s35_54, m35_55_23, m35_55_27, m35_55_31, m35_55_35, s35_58, Int.toNat_natCast, Int.toNat_natCast, Nat.reduceAdd, Nat.reduceMul, Int.reduceToNat, Int.reduceAdd, Int.reduceLT, Int.reduceLE, Int.reduceEq, Int.reduceNeg, Int.reduceMul, Int.reduceSub, Nat.reduceSub, reduceIte, ite_true, ite_false, and_true, true_and, and_self, a0, a1, hn, c2, ug_ne, ug_at, xadd3]
    · simp only [xadd3, if_pos c]
      exact pv_add3 w hn
    · intro a ha
      rw [ug_ne (by omega), ug_ne (by omega), ug_ne (by omega), ug_ne (by omega)]
  · have c2 : ¬ ((n : Int) < 8) := by omega
    refine ⟨G, ?_, ?_, fun _ _ => rfl⟩
    · refine e35 (by omega) ?_
      simp (disch := omega) only [s35_0, m35_1_23, m35_1_27, m35_1_31, m35_1_35, s35_4, m35_5_23, m35_5_27, m35_5_31, m35_5_35, s35_8, s35_11, s35_13, s35_14, m35_15_23, m35_15_27, m35_15_31, m35_15_35, s35_18, m35_19_23, m35_19_27, m35_19_31, m35_19_35, s35_22, m35_23_24, m35_23_28, m35_23_32, m35_23_36, s35_24, m35_25_23, m35_25_27, m35_25_31, m35_25_35, s35_28, m35_29_23, m35_29_27, m35_29_31, m35_29_35, s35_32, m35_33_25, m35_33_29, m35_33_33, m35_33_37, s35_34, m35_35_23, m35_35_27, m35_35_31, m35_35_35, s35_38, m35_39_23, m35_39_27, m35_39_31, m35_39_35, s35_42, m35_43_26, m35_43_30, m35_43_34, m35_43_38, s35_44, s35_45, m35_46_23, m35_46_27, m35_46_31, m35_46_35, s35_49, s35_50, m35_51_23, m35_51_27, m35_51_31, m35_51_35, s35_54, m35_55_23, m35_55_27, m35_55_31, m35_55_35, s35_58, Int.toNat_natCast, Int.toNat_natCast, Nat.reduceAdd, Nat.reduceMul, Int.reduceToNat, Int.reduceAdd, Int.reduceLT, Int.reduceLE, Int.reduceEq, Int.reduceNeg, Int.reduceMul, Int.reduceSub, Nat.reduceSub, reduceIte, ite_true, ite_false, and_true, true_and, and_self, a0, a1, hn, c2, xadd3]
    · simp only [xadd3, if_neg c]
      exact w
theorem sp36_3 {d N L : Nat} {B : q_Bv} {G : q_Gi} (hd : 1 ≤ d) : Sp d 36 [.ref 35] (hp N L B G) (some (vI 0)) (hp N L B (ug G 35 1 0)) := by
  refine e36 (by omega) ?_
  simp (disch := omega) only [s36_0, s36_1, m36_2_23, m36_2_27, m36_2_31, m36_2_35, s36_5, s36_6, Int.toNat_natCast, Int.toNat_natCast, Nat.reduceAdd, Nat.reduceMul, Int.reduceToNat, Int.reduceAdd, Int.reduceLT, Int.reduceLE, Int.reduceEq, Int.reduceNeg, Int.reduceMul, Int.reduceSub, Nat.reduceSub, reduceIte, ite_true, ite_false, and_true, true_and, and_self]
