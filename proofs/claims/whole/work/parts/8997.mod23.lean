/-! the model reads a text: the stack -/
def wst (G : q_Gi) : List Int → Prop
  | [] => True
  | c :: W => G 95 W.length = c ∧ wst G W
def sgs (G : q_Gi) (S0 : Nat) (T : List Int) : Prop := G 82 21 = ((S0 + T.length : Nat) : Int) ∧ ∀ k, k < T.length → G 94 (S0 + k) = mtk (T.getD k 0)
def est (G : q_Gi) (W T : List Int) (S0 : Nat) : Prop := G 82 22 = (W.length : Int) ∧ G 82 23 = (opn W : Int) ∧ wst G W ∧ sgs G S0 T
/-- the frame of reading an E -/
def emf (S0 : Nat) (G G' : q_Gi) : Prop := (∀ a, a ≠ 82 → a ≠ 94 → a ≠ 95 → G' a = G a) ∧ (∀ k, k ≠ 11 → k ≠ 12 → k ≠ 21 → k ≠ 22 → k ≠ 23 → G' 82 k = G 82 k) ∧ ∀ k, k < S0 → G' 94 k = G 94 k
theorem emf_r (S0 : Nat) (G : q_Gi) : emf S0 G G := ⟨fun _ _ _ _ => rfl, fun _ _ _ _ _ _ => rfl, fun _ _ => rfl⟩
theorem emf_t {S0 : Nat} {G G' G'' : q_Gi} (h1 : emf S0 G G') (h2 : emf S0 G' G'') : emf S0 G G'' := ⟨fun a x y z => (h2.1 a x y z).trans (h1.1 a x y z), fun k x y z w u => (h2.2.1 k x y z w u).trans (h1.2.1 k x y z w u), fun k x => (h2.2.2 k x).trans (h1.2.2 k x)⟩
theorem emf_m {S0 n : Nat} {G G' : q_Gi} {nx : Nat → Int} (h : emf S0 G G') (hm : mrd G n nx) : mrd G' n nx := ⟨by rw [h.2.1 10 (by omega) (by omega) (by omega) (by omega) (by omega)]; exact hm.1, hm.2.1, by rw [h.1 88 (by omega) (by omega) (by omega)]; exact hm.2.2.1, hm.2.2.2⟩
theorem wst_c {G G' : q_Gi} : ∀ {W : List Int}, (∀ k, k < W.length → G' 95 k = G 95 k) → wst G W → wst G' W
  | [], _, _ => trivial
  | c :: W, e, h => ⟨by rw [e _ (by rw [List.length_cons]; omega)]; exact h.1, wst_c (fun k hk => e k (by rw [List.length_cons]; omega)) h.2⟩
theorem wst_u {G : q_Gi} {z : Int} {W : List Int} {n : Nat} (hn : W.length ≤ n) (h : wst G W) : wst (ug G 95 n z) W := wst_c (fun k hk => ug_k (by omega)) h
theorem wst_n {G : q_Gi} {a k : Nat} {z : Int} {W : List Int} (ha : a ≠ 95) (h : wst G W) : wst (ug G a k z) W := wst_c (fun j _ => by rw [ug_ne (by omega)]) h
theorem sgs_n {G : q_Gi} {S0 a k : Nat} {z : Int} {T : List Int} (h : sgs G S0 T) (ha : a ≠ 94) (hk : a = 82 → k ≠ 21) : sgs (ug G a k z) S0 T := by
  refine ⟨?_, fun j hj => by rw [ug_ne (by omega)]; exact h.2 j hj⟩
  by_cases c : a = 82
  · rw [c, ug_k (by have := hk c; omega)]; exact h.1
  · rw [ug_ne (by omega)]; exact h.1
def wOK (W : List Int) : Prop := ∀ c, c ∈ W → c = 33 ∨ c = 40 ∨ c = 38 ∨ c = 124
theorem wOK_t {c : Int} {W : List Int} (h : wOK (c :: W)) : wOK W := fun x hx => h x (List.mem_cons_of_mem _ hx)
theorem wOK_c {c : Int} {W : List Int} (hc : c = 33 ∨ c = 40 ∨ c = 38 ∨ c = 124) (h : wOK W) : wOK (c :: W) := fun x hx => by
  rcases List.mem_cons.mp hx with e | e
  · rw [e]; exact hc
  · exact h x e
/-- a step is written -/
theorem sp128 {d S0 N L : Nat} {t : Int} {T : List Int} {B : q_Bv} {G : q_Gi} (hd : 1 ≤ d) (h : sgs G S0 T) (hl : S0 + T.length < 600) : Sp d 128 [.ref 82, vI (mtk t)] (hp N L B G) none (hp N L B (ug (ug G 94 (S0 + T.length) (mtk t)) 82 21 ((S0 + T.length : Nat) + 1 : Int))) ∧ sgs (ug (ug G 94 (S0 + T.length) (mtk t)) 82 21 ((S0 + T.length : Nat) + 1 : Int)) S0 (T ++ [t]) := by
  refine ⟨?_, ?_, ?_⟩
  · refine e128 (by omega) ?_
    simp (disch := omega) only [s128_0, m128_1, s128_4, m128_5, s128_8, m128_9, s128_10, s128_11, m128_12, s128_15, s128_16, m128_17, s128_20, Int.toNat_natCast, Int.toNat_natCast, Nat.reduceAdd, Nat.reduceMul, Int.reduceToNat, Int.reduceAdd, Int.reduceLT, Int.reduceLE, Int.reduceEq, Int.reduceNeg, Int.reduceMul, Int.reduceSub, Nat.reduceSub, reduceIte, ite_true, ite_false, and_true, true_and, and_self, h.1, ug_ne]
  · rw [ug_at, List.length_append]; rfl
  · intro k hk
    rw [List.length_append, List.length_cons, List.length_nil] at hk
    rw [ug_ne (by omega)]
    by_cases c : k = T.length
    · rw [c, ug_at, getD_e]
    · rw [ug_k (by omega), getD_l (by omega)]; exact h.2 k (by omega)
theorem lp129 {d S0 N L : Nat} {B : q_Bv} (hd : 2 ≤ d) {Q : Option Value → q_H → Prop} : ∀ (W T : List Int) (G : q_Gi), est G W T S0 → wOK W → S0 + T.length + W.length ≤ 600 → W.length ≤ 100 → (∀ G' : q_Gi, est G' (popN W) (T ++ nots W) S0 → emf S0 G G' → G' 82 11 = G 82 11 → Q none (hp N L B G')) → WP d 129 0 [.ref 82] [] (hp N L B G) Q := by
  intro W
  induction W with
  | nil =>
    intro T G h hw hl h100 hQ
    obtain ⟨w0, w1, w2, w3⟩ := h
    have := hQ G ⟨w0, w1, w2, by rw [show nots [] = [] from rfl, List.append_nil]; exact w3⟩ (emf_r S0 G) rfl
    rw [List.length_nil] at w0
    simp (disch := omega) only [s129_0, m129_1, s129_4, s129_7, m129_8, s129_11, m129_12, s129_15, s129_16, m129_17, s129_18, s129_20, s129_20b, s129_23, s129_24, s129_29, s129_30, m129_31, s129_34, s129_35, m129_36, s129_39, s129_40, m129_41, s129_44, s129_45, m129_46, s129_49, s129_52, Int.toNat_natCast, Int.toNat_natCast, Nat.reduceAdd, Nat.reduceMul, Int.reduceToNat, Int.reduceAdd, Int.reduceLT, Int.reduceLE, Int.reduceEq, Int.reduceNeg, Int.reduceMul, Int.reduceSub, Nat.reduceSub, reduceIte, ite_true, ite_false, and_true, true_and, and_self, w0, show ((0 : Nat) : Int) = 0 from rfl]
    exact this
  | cons c W ih =>
    intro T G h hw hl h100 hQ
    obtain ⟨w0, w1, w2, w3⟩ := h
    rw [List.length_cons] at w0 hl h100
    have n0 : 0 < ((W.length + 1 : Nat) : Int) := by omega
    have n0' : ¬ ((W.length + 1 : Nat) : Int) ≤ 0 := by omega
    have e1 : ((W.length + 1 : Nat) : Int) - 1 = (W.length : Int) := by omega
    have w95 := w2.1
    by_cases c1 : c = 33
    · subst c1
      have e2 : popN (33 :: W) = popN W := rfl
      have e3 : nots (33 :: W) = -3 :: nots W := rfl
      rw [e2, e3] at hQ
      obtain ⟨s1, t1⟩ := sp128 (d := d) (t := -3) (N := N) (L := L) (B := B) (by omega) w3 (by omega)
      have em : mtk (-3) = -33 := rfl
      rw [em] at s1 t1
      have wop : opn (33 :: W) = opn W + 1 := rfl
      rw [wop] at w1
      have e4 : ((opn W + 1 : Nat) : Int) - 1 = (opn W : Int) := by omega
      have := ih (T ++ [-3]) (ug (ug (ug (ug G 94 (S0 + T.length) (-33)) 82 21 ((S0 + T.length : Nat) + 1 : Int)) 82 22 (W.length : Int)) 82 23 (opn W : Int)) ⟨by rw [ug_k (by omega), ug_at], ug_at, wst_n (by omega) (wst_n (by omega) (wst_n (by omega) (wst_n (by omega) w2.2))), sgs_n (sgs_n t1 (by omega) (by omega)) (by omega) (by omega)⟩ (wOK_t hw) (by rw [List.length_append, List.length_cons, List.length_nil]; omega) (by omega) (fun G' q1 q2 q3 => hQ G' (by rw [List.append_assoc] at q1; exact q1) (emf_t ⟨fun a x y z => by rw [ug_ne x, ug_ne x, ug_ne x, ug_ne y], fun k x y z w u => by rw [ug_k u, ug_k w, ug_k z, ug_ne (by omega)], fun k hk => by rw [ug_ne (by omega), ug_ne (by omega), ug_ne (by omega), ug_k (by omega)]⟩ q2) (by rw [q3, ug_k (by omega), ug_k (by omega), ug_k (by omega), ug_ne (by omega)]))
      rw [s129_0]
      simp (disch := omega) only [m129_1, s129_4, s129_7, m129_8, s129_11, m129_12, s129_15, s129_16, m129_17, s129_18, s129_20, s129_20b, s129_23, s129_24, s129_29, s129_30, m129_31, s129_34, s129_35, m129_36, s129_39, s129_40, m129_41, s129_44, s129_45, m129_46, s129_49, Int.toNat_natCast, Int.toNat_natCast, Nat.reduceAdd, Nat.reduceMul, Int.reduceToNat, Int.reduceAdd, Int.reduceLT, Int.reduceLE, Int.reduceEq, Int.reduceNeg, Int.reduceMul, Int.reduceSub, Nat.reduceSub, reduceIte, ite_true, ite_false, and_true, true_and, and_self, w0, n0, n0', e1, w95, m129_26 s1, ug_k, ug_ne, w1, e4]
      exact this
    · have e2 : popN (c :: W) = c :: W := by
        show (if c = 33 then popN W else c :: W) = _
        rw [if_neg c1]
      have e3 : nots (c :: W) = [] := by
        show (if c = 33 then -3 :: nots W else []) = _
        rw [if_neg c1]
      have c1' := eq_false c1
      have := hQ G (by rw [e2, e3, List.append_nil]; exact ⟨w0, w1, w2, w3⟩) (emf_r S0 G) rfl
      have hc := hw c (List.mem_cons_self ..)
      simp (disch := omega) only [s129_0, m129_1, s129_4, s129_7, m129_8, s129_11, m129_12, s129_15, s129_16, m129_17, s129_18, s129_20, s129_20b, s129_23, s129_24, s129_29, s129_30, m129_31, s129_34, s129_35, m129_36, s129_39, s129_40, m129_41, s129_44, s129_45, m129_46, s129_49, s129_52, Int.toNat_natCast, Int.toNat_natCast, Nat.reduceAdd, Nat.reduceMul, Int.reduceToNat, Int.reduceAdd, Int.reduceLT, Int.reduceLE, Int.reduceEq, Int.reduceNeg, Int.reduceMul, Int.reduceSub, Nat.reduceSub, reduceIte, ite_true, ite_false, and_true, true_and, and_self, w0, n0, n0', e1, w95, c1', if_false]
      exact this
theorem lp130_3 {d S0 N L : Nat} {B : q_Bv} (hd : 2 ≤ d) {Q : Option Value → q_H → Prop} : ∀ (W T : List Int) (G : q_Gi), est G W T S0 → wOK W → S0 + T.length + W.length ≤ 600 → W.length ≤ 100 → (∀ G' : q_Gi, est G' (stl3 W T).1 (stl3 W T).2 S0 → emf S0 G G' → G' 82 11 = G 82 11 → Q none (hp N L B G')) → WP d 130 0 [.ref 82, vI 38] [] (hp N L B G) Q := by
  intro W
  induction W with
  | nil =>
    intro T G h hw hl h100 hQ
    have := hQ G h (emf_r S0 G) rfl
    obtain ⟨w0, w1, w2, w3⟩ := h
    rw [List.length_nil] at w0
    simp (disch := omega) only [s130_0, m130_1, s130_4, s130_7, m130_8, s130_11, m130_12, s130_15, s130_16, m130_17, s130_18, s130_20, s130_20b, s130_23, m130_24, s130_27, m130_28, s130_31, s130_32, m130_33, s130_34, s130_36, s130_36b, s130_39, s130_40, s130_42, s130_42b, s130_45, s130_46, m130_47, s130_50, s130_51, m130_52, s130_55, s130_56, m130_57, s130_60, m130_61, m130_64, s130_65, s130_69, s130_72, Int.toNat_natCast, Int.toNat_natCast, Nat.reduceAdd, Nat.reduceMul, Int.reduceToNat, Int.reduceAdd, Int.reduceLT, Int.reduceLE, Int.reduceEq, Int.reduceNeg, Int.reduceMul, Int.reduceSub, Nat.reduceSub, reduceIte, ite_true, ite_false, and_true, true_and, and_self, w0, show ((0 : Nat) : Int) = 0 from rfl]
    exact this
  | cons c W ih =>
    intro T G h hw hl h100 hQ
    have hc := hw c (List.mem_cons_self ..)
    have hh := h
    obtain ⟨w0, w1, w2, w3⟩ := h
    rw [List.length_cons] at w0 hl h100
    have n0 : 0 < ((W.length + 1 : Nat) : Int) := by omega
    have n0' : ¬ ((W.length + 1 : Nat) : Int) ≤ 0 := by omega
    have e1 : ((W.length + 1 : Nat) : Int) - 1 = (W.length : Int) := by omega
    have w95 := w2.1
    by_cases c1 : c = 38
    · subst c1
      have w2' : wst (ug G 82 22 (W.length : Int)) W := wst_n (by omega) w2.2
      have w3' : sgs (ug G 82 22 (W.length : Int)) S0 T := sgs_n w3 (by omega) (by omega)
      obtain ⟨s1, t1⟩ := sp128 (d := d) (t := -1) (N := N) (L := L) (B := B) (by omega) w3' (by omega)
      have em : mtk (-1) = -38 := rfl
      rw [em] at s1 t1
      have e3 : stl3 (38 :: W) T = stl3 W (T ++ [-1]) := rfl
      rw [e3] at hQ
      have wop : opn (38 :: W) = opn W := rfl
      rw [wop] at w1
      have := ih (T ++ [-1]) (ug (ug (ug G 82 22 (W.length : Int)) 94 (S0 + T.length) (-38)) 82 21 ((S0 + T.length : Nat) + 1 : Int)) ⟨by rw [ug_k (by omega), ug_ne (by omega), ug_at], by rw [ug_k (by omega), ug_ne (by omega), ug_k (by omega)]; exact w1, wst_n (by omega) (wst_n (by omega) w2'), t1⟩ (wOK_t hw) (by rw [List.length_append, List.length_cons, List.length_nil]; omega) (by omega) (fun G' q1 q2 q3 => hQ G' q1 (emf_t ⟨fun a x y z => by rw [ug_ne x, ug_ne y, ug_ne x], fun k x y z w u => by rw [ug_k z, ug_ne (by omega), ug_k w], fun k hk => by rw [ug_ne (by omega), ug_k (by omega), ug_ne (by omega)]⟩ q2) (by rw [q3, ug_k (by omega), ug_ne (by omega), ug_k (by omega)]))
      rw [s130_0]
      simp (disch := omega) only [m130_1, s130_4, s130_7, m130_8, s130_11, m130_12, s130_15, s130_16, m130_17, s130_18, s130_20, s130_20b, s130_23, m130_24, s130_27, m130_28, s130_31, s130_32, m130_33, s130_34, s130_36, s130_36b, s130_39, s130_40, s130_42, s130_42b, s130_45, s130_46, m130_47, s130_50, s130_51, m130_52, s130_55, s130_56, m130_57, s130_60, m130_61, m130_64, s130_65, s130_69, Int.toNat_natCast, Int.toNat_natCast, Nat.reduceAdd, Nat.reduceMul, Int.reduceToNat, Int.reduceAdd, Int.reduceLT, Int.reduceLE, Int.reduceEq, Int.reduceNeg, Int.reduceMul, Int.reduceSub, Nat.reduceSub, reduceIte, ite_true, ite_false, and_true, true_and, and_self, w0, n0, n0', e1, w95, m130_66 s1, ug_k, ug_ne, ug_at]
      exact this
    · have e3 : stl3 (c :: W) T = (c :: W, T) := by
        show (if c = 38 then stl3 W (T ++ [-1]) else (c :: W, T)) = _
        rw [if_neg c1]
      rw [e3] at hQ
      have c1' := eq_false c1
      have := hQ G hh (emf_r S0 G) rfl
      by_cases c2 : c = 124
      · subst c2
        simp (disch := omega) only [s130_0, m130_1, s130_4, s130_7, m130_8, s130_11, m130_12, s130_15, s130_16, m130_17, s130_18, s130_20, s130_20b, s130_23, m130_24, s130_27, m130_28, s130_31, s130_32, m130_33, s130_34, s130_36, s130_36b, s130_39, s130_40, s130_42, s130_42b, s130_45, s130_46, m130_47, s130_50, s130_51, m130_52, s130_55, s130_56, m130_57, s130_60, m130_61, m130_64, s130_65, s130_69, s130_72, Int.toNat_natCast, Int.toNat_natCast, Nat.reduceAdd, Nat.reduceMul, Int.reduceToNat, Int.reduceAdd, Int.reduceLT, Int.reduceLE, Int.reduceEq, Int.reduceNeg, Int.reduceMul, Int.reduceSub, Nat.reduceSub, reduceIte, ite_true, ite_false, and_true, true_and, and_self, w0, n0, n0', e1, w95]
        exact this
      · have c2' := eq_false c2
        simp (disch := omega) only [s130_0, m130_1, s130_4, s130_7, m130_8, s130_11, m130_12, s130_15, s130_16, m130_17, s130_18, s130_20, s130_20b, s130_23, m130_24, s130_27, m130_28, s130_31, s130_32, m130_33, s130_34, s130_36, s130_36b, s130_39, s130_40, s130_42, s130_42b, s130_45, s130_46, m130_47, s130_50, s130_51, m130_52, s130_55, s130_56, m130_57, s130_60, m130_61, m130_64, s130_65, s130_69, s130_72, Int.toNat_natCast, Int.toNat_natCast, Nat.reduceAdd, Nat.reduceMul, Int.reduceToNat, Int.reduceAdd, Int.reduceLT, Int.reduceLE, Int.reduceEq, Int.reduceNeg, Int.reduceMul, Int.reduceSub, Nat.reduceSub, reduceIte, ite_true, ite_false, and_true, true_and, and_self, w0, n0, n0', e1, w95, c1', c2', if_false]
        exact this
theorem lp130_O {d S0 N L : Nat} {B : q_Bv} (hd : 2 ≤ d) {Q : Option Value → q_H → Prop} : ∀ (W T : List Int) (G : q_Gi), est G W T S0 → wOK W → S0 + T.length + W.length ≤ 600 → W.length ≤ 100 → (∀ G' : q_Gi, est G' (stlO W T).1 (stlO W T).2 S0 → emf S0 G G' → G' 82 11 = G 82 11 → Q none (hp N L B G')) → WP d 130 0 [.ref 82, vI 124] [] (hp N L B G) Q := by
  intro W
  induction W with
  | nil =>
    intro T G h hw hl h100 hQ
    have := hQ G h (emf_r S0 G) rfl
    obtain ⟨w0, w1, w2, w3⟩ := h
    rw [List.length_nil] at w0
    simp (disch := omega) only [s130_0, m130_1, s130_4, s130_7, m130_8, s130_11, m130_12, s130_15, s130_16, m130_17, s130_18, s130_20, s130_20b, s130_23, m130_24, s130_27, m130_28, s130_31, s130_32, m130_33, s130_34, s130_36, s130_36b, s130_39, s130_40, s130_42, s130_42b, s130_45, s130_46, m130_47, s130_50, s130_51, m130_52, s130_55, s130_56, m130_57, s130_60, m130_61, m130_64, s130_65, s130_69, s130_72, Int.toNat_natCast, Int.toNat_natCast, Nat.reduceAdd, Nat.reduceMul, Int.reduceToNat, Int.reduceAdd, Int.reduceLT, Int.reduceLE, Int.reduceEq, Int.reduceNeg, Int.reduceMul, Int.reduceSub, Nat.reduceSub, reduceIte, ite_true, ite_false, and_true, true_and, and_self, w0, show ((0 : Nat) : Int) = 0 from rfl]
    exact this
  | cons c W ih =>
    intro T G h hw hl h100 hQ
    have hc := hw c (List.mem_cons_self ..)
    have hh := h
    obtain ⟨w0, w1, w2, w3⟩ := h
    rw [List.length_cons] at w0 hl h100
    have n0 : 0 < ((W.length + 1 : Nat) : Int) := by omega
    have n0' : ¬ ((W.length + 1 : Nat) : Int) ≤ 0 := by omega
    have e1 : ((W.length + 1 : Nat) : Int) - 1 = (W.length : Int) := by omega
    have w95 := w2.1
    have w2' : wst (ug G 82 22 (W.length : Int)) W := wst_n (by omega) w2.2
    have w3' : sgs (ug G 82 22 (W.length : Int)) S0 T := sgs_n w3 (by omega) (by omega)
    by_cases c1 : c = 38
    · subst c1
      obtain ⟨s1, t1⟩ := sp128 (d := d) (t := -1) (N := N) (L := L) (B := B) (by omega) w3' (by omega)
      have em : mtk (-1) = -38 := rfl
      rw [em] at s1 t1
      have e3 : stlO (38 :: W) T = stlO W (T ++ [-1]) := rfl
      rw [e3] at hQ
      have wop : opn (38 :: W) = opn W := rfl
      rw [wop] at w1
      have := ih (T ++ [-1]) (ug (ug (ug G 82 22 (W.length : Int)) 94 (S0 + T.length) (-38)) 82 21 ((S0 + T.length : Nat) + 1 : Int)) ⟨by rw [ug_k (by omega), ug_ne (by omega), ug_at], by rw [ug_k (by omega), ug_ne (by omega), ug_k (by omega)]; exact w1, wst_n (by omega) (wst_n (by omega) w2'), t1⟩ (wOK_t hw) (by rw [List.length_append, List.length_cons, List.length_nil]; omega) (by omega) (fun G' q1 q2 q3 => hQ G' q1 (emf_t ⟨fun a x y z => by rw [ug_ne x, ug_ne y, ug_ne x], fun k x y z w u => by rw [ug_k z, ug_ne (by omega), ug_k w], fun k hk => by rw [ug_ne (by omega), ug_k (by omega), ug_ne (by omega)]⟩ q2) (by rw [q3, ug_k (by omega), ug_ne (by omega), ug_k (by omega)]))
      rw [s130_0]
      simp (disch := omega) only [m130_1, s130_4, s130_7, m130_8, s130_11, m130_12, s130_15, s130_16, m130_17, s130_18, s130_20, s130_20b, s130_23, m130_24, s130_27, m130_28, s130_31, s130_32, m130_33, s130_34, s130_36, s130_36b, s130_39, s130_40, s130_42, s130_42b, s130_45, s130_46, m130_47, s130_50, s130_51, m130_52, s130_55, s130_56, m130_57, s130_60, m130_61, m130_64, s130_65, s130_69, Int.toNat_natCast, Int.toNat_natCast, Nat.reduceAdd, Nat.reduceMul, Int.reduceToNat, Int.reduceAdd, Int.reduceLT, Int.reduceLE, Int.reduceEq, Int.reduceNeg, Int.reduceMul, Int.reduceSub, Nat.reduceSub, reduceIte, ite_true, ite_false, and_true, true_and, and_self, w0, n0, n0', e1, w95, m130_66 s1, ug_k, ug_ne, ug_at]
      exact this
    by_cases c2 : c = 124
    · subst c2
      obtain ⟨s1, t1⟩ := sp128 (d := d) (t := -2) (N := N) (L := L) (B := B) (by omega) w3' (by omega)
      have em : mtk (-2) = -124 := rfl
      rw [em] at s1 t1
      have e3 : stlO (124 :: W) T = stlO W (T ++ [-2]) := rfl
      rw [e3] at hQ
      have wop : opn (124 :: W) = opn W := rfl
      rw [wop] at w1
      have := ih (T ++ [-2]) (ug (ug (ug G 82 22 (W.length : Int)) 94 (S0 + T.length) (-124)) 82 21 ((S0 + T.length : Nat) + 1 : Int)) ⟨by rw [ug_k (by omega), ug_ne (by omega), ug_at], by rw [ug_k (by omega), ug_ne (by omega), ug_k (by omega)]; exact w1, wst_n (by omega) (wst_n (by omega) w2'), t1⟩ (wOK_t hw) (by rw [List.length_append, List.length_cons, List.length_nil]; omega) (by omega) (fun G' q1 q2 q3 => hQ G' q1 (emf_t ⟨fun a x y z => by rw [ug_ne x, ug_ne y, ug_ne x], fun k x y z w u => by rw [ug_k z, ug_ne (by omega), ug_k w], fun k hk => by rw [ug_ne (by omega), ug_k (by omega), ug_ne (by omega)]⟩ q2) (by rw [q3, ug_k (by omega), ug_ne (by omega), ug_k (by omega)]))
      rw [s130_0]
      simp (disch := omega) only [m130_1, s130_4, s130_7, m130_8, s130_11, m130_12, s130_15, s130_16, m130_17, s130_18, s130_20, s130_20b, s130_23, m130_24, s130_27, m130_28, s130_31, s130_32, m130_33, s130_34, s130_36, s130_36b, s130_39, s130_40, s130_42, s130_42b, s130_45, s130_46, m130_47, s130_50, s130_51, m130_52, s130_55, s130_56, m130_57, s130_60, m130_61, m130_64, s130_65, s130_69, Int.toNat_natCast, Int.toNat_natCast, Nat.reduceAdd, Nat.reduceMul, Int.reduceToNat, Int.reduceAdd, Int.reduceLT, Int.reduceLE, Int.reduceEq, Int.reduceNeg, Int.reduceMul, Int.reduceSub, Nat.reduceSub, reduceIte, ite_true, ite_false, and_true, true_and, and_self, w0, n0, n0', e1, w95, m130_66 s1, ug_k, ug_ne, ug_at]
      exact this
    have e3 : stlO (c :: W) T = (c :: W, T) := by
      show (if c = 38 then stlO W (T ++ [-1]) else if c = 124 then stlO W (T ++ [-2]) else (c :: W, T)) = _
      rw [if_neg c1, if_neg c2]
    rw [e3] at hQ
    have c1' := eq_false c1
    have c2' := eq_false c2
    have := hQ G hh (emf_r S0 G) rfl
    simp (disch := omega) only [s130_0, m130_1, s130_4, s130_7, m130_8, s130_11, m130_12, s130_15, s130_16, m130_17, s130_18, s130_20, s130_20b, s130_23, m130_24, s130_27, m130_28, s130_31, s130_32, m130_33, s130_34, s130_36, s130_36b, s130_39, s130_40, s130_42, s130_42b, s130_45, s130_46, m130_47, s130_50, s130_51, m130_52, s130_55, s130_56, m130_57, s130_60, m130_61, m130_64, s130_65, s130_69, s130_72, Int.toNat_natCast, Int.toNat_natCast, Nat.reduceAdd, Nat.reduceMul, Int.reduceToNat, Int.reduceAdd, Int.reduceLT, Int.reduceLE, Int.reduceEq, Int.reduceNeg, Int.reduceMul, Int.reduceSub, Nat.reduceSub, reduceIte, ite_true, ite_false, and_true, true_and, and_self, w0, n0, n0', e1, w95, c1', c2', if_false]
    exact this
theorem sp129 {d S0 N L : Nat} {W T : List Int} {B : q_Bv} {G : q_Gi} (hd : 3 ≤ d) (h : est G W T S0) (hw : wOK W) (hl : S0 + T.length + W.length ≤ 600) (h100 : W.length ≤ 100) : ∃ G', Sp d 129 [.ref 82] (hp N L B G) none (hp N L B G') ∧ est G' (popN W) (T ++ nots W) S0 ∧ emf S0 G G' ∧ G' 82 11 = G 82 11 := by
  obtain ⟨r, X1, hS, G', hr, hX, q⟩ := E129 (d := d) (X := hp N L B G) (Q := fun r1 X1 => ∃ G', r1 = none ∧ X1 = hp N L B G' ∧ est G' (popN W) (T ++ nots W) S0 ∧ emf S0 G G' ∧ G' 82 11 = G 82 11) (by omega) (lp129 (by omega) W T G h hw hl h100 (fun G' q1 q2 q3 => ⟨G', rfl, rfl, q1, q2, q3⟩))
  rw [hr, hX] at hS
  exact ⟨G', hS, q⟩
theorem sp130_3 {d S0 N L : Nat} {W T : List Int} {B : q_Bv} {G : q_Gi} (hd : 3 ≤ d) (h : est G W T S0) (hw : wOK W) (hl : S0 + T.length + W.length ≤ 600) (h100 : W.length ≤ 100) : ∃ G', Sp d 130 [.ref 82, vI 38] (hp N L B G) none (hp N L B G') ∧ est G' (stl3 W T).1 (stl3 W T).2 S0 ∧ emf S0 G G' ∧ G' 82 11 = G 82 11 := by
  obtain ⟨r, X1, hS, G', hr, hX, q⟩ := E130 (d := d) (X := hp N L B G) (z1 := 38) (Q := fun r1 X1 => ∃ G', r1 = none ∧ X1 = hp N L B G' ∧ est G' (stl3 W T).1 (stl3 W T).2 S0 ∧ emf S0 G G' ∧ G' 82 11 = G 82 11) (by omega) (lp130_3 (by omega) W T G h hw hl h100 (fun G' q1 q2 q3 => ⟨G', rfl, rfl, q1, q2, q3⟩))
  rw [hr, hX] at hS
  exact ⟨G', hS, q⟩
theorem sp130_O {d S0 N L : Nat} {W T : List Int} {B : q_Bv} {G : q_Gi} (hd : 3 ≤ d) (h : est G W T S0) (hw : wOK W) (hl : S0 + T.length + W.length ≤ 600) (h100 : W.length ≤ 100) : ∃ G', Sp d 130 [.ref 82, vI 124] (hp N L B G) none (hp N L B G') ∧ est G' (stlO W T).1 (stlO W T).2 S0 ∧ emf S0 G G' ∧ G' 82 11 = G 82 11 := by
  obtain ⟨r, X1, hS, G', hr, hX, q⟩ := E130 (d := d) (X := hp N L B G) (z1 := 124) (Q := fun r1 X1 => ∃ G', r1 = none ∧ X1 = hp N L B G' ∧ est G' (stlO W T).1 (stlO W T).2 S0 ∧ emf S0 G G' ∧ G' 82 11 = G 82 11) (by omega) (lp130_O (by omega) W T G h hw hl h100 (fun G' q1 q2 q3 => ⟨G', rfl, rfl, q1, q2, q3⟩))
  rw [hr, hX] at hS
  exact ⟨G', hS, q⟩
/-- a TEST -/
theorem sp132 {d S0 n p N L : Nat} {W T : List Int} {B : q_Bv} {G : q_Gi} {nx : Nat → Int} (hd : 4 ≤ d) (h : mrd G n nx) (ha : G 82 11 = (p : Int)) (hpn : p ≤ n) (he : est G W T S0) (hw : wOK W) (hl : p + 2 < n → S0 + T.length + W.length + 1 ≤ 600) (h100 : W.length ≤ 100) : ∃ G', Sp d 132 [.ref 82] (hp N L B G) (some (vI (bI ((tstS nx p).1 = true)))) (hp N L B G') ∧ G' 82 11 = ((tstS nx p).2.1 : Int) ∧ emf S0 G G' ∧ ((tstS nx p).1 = true → est G' (popN W) (T ++ ((tstS nx p).2.2 ++ nots W)) S0) := by
  have ht := h.2.2.2
  have hn := h.2.1
  have h122 := sp122 (d := d - 1) (N := N) (L := L) (B := B) (by omega) h ha hpn
  have hr := nx_r ht p
  have h131 := sp131 (d := d - 1) (X := hp N L B G) (by omega) hr
  have hli := liS_r (c := nx p)
  unfold tstS
  by_cases c1 : liS (nx p) < 0
  · have c1' : ¬ 0 ≤ liS (nx p) := by omega
    rw [if_pos c1, bI_f (show ¬ (false, p, ([] : List Int)).1 = true from Bool.false_ne_true)]
    refine ⟨G, ?_, ha, emf_r S0 G, fun e => absurd e Bool.false_ne_true⟩
    refine e132 (by omega) ?_
    simp (disch := omega) only [s132_0, s132_1, s132_8, s132_9, s132_10, s132_13, s132_14, s132_14b, s132_15, s132_16, m132_17, s132_20, s132_21, m132_22, s132_25, s132_29, s132_30, s132_31, s132_32, s132_34, s132_39, s132_39b, s132_42, s132_43, s132_43b, s132_44, s132_45, m132_46, s132_49, s132_50, m132_51, s132_54, s132_58, s132_58b, s132_61, s132_62, s132_62b, s132_63, s132_64, s132_67, s132_68, s132_69, s132_71, s132_72, s132_74, s132_75, s132_76, s132_77, m132_78, s132_81, s132_85, s132_89, s132_90, s132_90b, Int.toNat_natCast, Int.toNat_natCast, Nat.reduceAdd, Nat.reduceMul, Int.reduceToNat, Int.reduceAdd, Int.reduceLT, Int.reduceLE, Int.reduceEq, Int.reduceNeg, Int.reduceMul, Int.reduceSub, Nat.reduceSub, reduceIte, ite_true, ite_false, and_true, true_and, and_self, m132_2 h122, m132_5 h131, eq_true c1, if_true]
  have c1' : 0 ≤ liS (nx p) := by omega
  have l1 : p < n := txt_lt ht (c := nx p) (by have := liS_0 c1'; omega) rfl
  rw [if_neg c1]
  have ep : (p : Int) + 1 = ((p + 1 : Nat) : Int) := rfl
  have m1 : mrd (ug G 82 11 ((p + 1 : Nat) : Int)) n nx := mrd_u h (by omega)
  have h122a := sp122 (d := d - 1) (p := p + 1) (N := N) (L := L) (B := B) (by omega) m1 ug_at (by omega)
  have hr1 := nx_r ht (p + 1)
  have h109 := sp109 (d := d - 1) (z := nx (p + 1)) (lo := 60) (hi := 62) (X := hp N L B (ug G 82 11 ((p + 1 : Nat) : Int))) (by omega) (by omega) (by omega) (by omega)
  by_cases c2 : siS (nx (p + 1)) < 0
  · have c2' : ¬ (60 ≤ nx (p + 1) ∧ nx (p + 1) ≤ 62) := by
      intro hh
      unfold siS at c2
      repeat' split at c2
      all_goals omega
    rw [bI_f c2'] at h109
    rw [if_pos c2, bI_f (show ¬ (false, p + 1, ([] : List Int)).1 = true from Bool.false_ne_true)]
    refine ⟨ug G 82 11 ((p + 1 : Nat) : Int), ?_, ug_at, ⟨fun a x y z => by rw [ug_ne x], fun k x y z w u => by rw [ug_k x], fun k hk => by rw [ug_ne (by omega)]⟩, fun e => absurd e Bool.false_ne_true⟩
    refine e132 (by omega) ?_
    simp (disch := omega) only [s132_0, s132_1, s132_8, s132_9, s132_10, s132_13, s132_14, s132_14b, s132_15, s132_16, m132_17, s132_20, s132_21, m132_22, s132_25, s132_29, s132_30, s132_31, s132_32, s132_34, s132_39, s132_39b, s132_42, s132_43, s132_43b, s132_44, s132_45, m132_46, s132_49, s132_50, m132_51, s132_54, s132_58, s132_58b, s132_61, s132_62, s132_62b, s132_63, s132_64, s132_67, s132_68, s132_69, s132_71, s132_72, s132_74, s132_75, s132_76, s132_77, m132_78, s132_81, s132_85, s132_89, s132_90, s132_90b, Int.toNat_natCast, Int.toNat_natCast, Nat.reduceAdd, Nat.reduceMul, Int.reduceToNat, Int.reduceAdd, Int.reduceLT, Int.reduceLE, Int.reduceEq, Int.reduceNeg, Int.reduceMul, Int.reduceSub, Nat.reduceSub, reduceIte, ite_true, ite_false, and_true, true_and, and_self, m132_2 h122, m132_5 h131, ha, ep, m132_26 h122a, m132_36 h109, eq_false c1, if_false]
  have c2' : 60 ≤ nx (p + 1) ∧ nx (p + 1) ≤ 62 := by
    unfold siS at c2
    repeat' split at c2
    all_goals omega
  have e2 : siS (nx (p + 1)) = nx (p + 1) - 60 := by
    unfold siS at c2 ⊢
    repeat' split
    all_goals omega
  have l2 : p + 1 < n := txt_lt ht (c := nx (p + 1)) (by omega) rfl
  rw [if_neg c2]
  rw [bI_t c2'] at h109
  have ep2 : ((p + 1 : Nat) : Int) + 1 = ((p + 2 : Nat) : Int) := rfl
  have m2 : mrd (ug (ug G 82 11 ((p + 1 : Nat) : Int)) 82 11 ((p + 2 : Nat) : Int)) n nx := mrd_u m1 (by omega)
  obtain ⟨G2, s2, a2, dg2, f1, f2⟩ := sp127 (d := d - 1) (p := p + 2) (N := N) (L := L) (B := B) (by omega) m2 ug_at (by omega)
  have hng := num_g (p := p + 2) ht (by omega)
  have F1 : emf S0 G G2 := ⟨fun a x y z => by rw [f1 a x, ug_ne x, ug_ne x], fun k x y z w u => by rw [f2 k x y, ug_k x, ug_k x], fun k hk => by rw [f1 94 (by omega), ug_ne (by omega), ug_ne (by omega)]⟩
  by_cases c3 : (numS nx (p + 2)).1 < 0
  · rw [if_pos c3, bI_f (show ¬ (false, (numS nx (p + 2)).2, ([] : List Int)).1 = true from Bool.false_ne_true)]
    rw [bI_f (show ¬ 0 ≤ (numS nx (p + 2)).1 by omega)] at s2
    refine ⟨G2, ?_, a2, F1, fun e => absurd e Bool.false_ne_true⟩
    refine e132 (by omega) ?_
    simp (disch := omega) only [s132_0, s132_1, s132_8, s132_9, s132_10, s132_13, s132_14, s132_14b, s132_15, s132_16, m132_17, s132_20, s132_21, m132_22, s132_25, s132_29, s132_30, s132_31, s132_32, s132_34, s132_39, s132_39b, s132_42, s132_43, s132_43b, s132_44, s132_45, m132_46, s132_49, s132_50, m132_51, s132_54, s132_58, s132_58b, s132_61, s132_62, s132_62b, s132_63, s132_64, s132_67, s132_68, s132_69, s132_71, s132_72, s132_74, s132_75, s132_76, s132_77, m132_78, s132_81, s132_85, s132_89, s132_90, s132_90b, Int.toNat_natCast, Int.toNat_natCast, Nat.reduceAdd, Nat.reduceMul, Int.reduceToNat, Int.reduceAdd, Int.reduceLT, Int.reduceLE, Int.reduceEq, Int.reduceNeg, Int.reduceMul, Int.reduceSub, Nat.reduceSub, reduceIte, ite_true, ite_false, and_true, true_and, and_self, m132_2 h122, m132_5 h131, ha, ep, m132_26 h122a, m132_36 h109, ug_at, ep2, m132_55 s2, eq_false c1, if_false]
  have c3' : 0 ≤ (numS nx (p + 2)).1 := by omega
  rw [if_neg c3]
  rw [bI_t c3'] at s2
  have d2 := dg2 c3'
  have hl := hl (by
    have := hng.2.2.2 c3'
    omega)
  have hg2 : ∀ k, k ≠ 11 → k ≠ 12 → G2 82 k = G 82 k := fun k x y => by rw [f2 k x y, ug_k x, ug_k x]
  have g94 : ∀ a, a ≠ 82 → G2 a = G a := fun a x => by rw [f1 a x, ug_ne x, ug_ne x]
  obtain ⟨w0, w1, w2, w3⟩ := he
  have w3' : sgs G2 S0 T := ⟨by rw [hg2 21 (by omega) (by omega)]; exact w3.1, fun k hk => by rw [g94 94 (by omega)]; exact w3.2 k hk⟩
  obtain ⟨s3, t3⟩ := sp128 (d := d - 1) (t := liS (nx p) * 1000 + siS (nx (p + 1)) * 100 + (numS nx (p + 2)).1) (N := N) (L := L) (B := B) (by omega) w3' (by omega)
  have em : mtk (liS (nx p) * 1000 + siS (nx (p + 1)) * 100 + (numS nx (p + 2)).1) = 1000 * liS (nx p) + 100 * (nx (p + 1) - 60) + (numS nx (p + 2)).1 := by
    rw [e2]
    unfold mtk
    repeat' split
    all_goals omega
  rw [em] at s3 t3
  have he3 : est (ug (ug G2 94 (S0 + T.length) (1000 * liS (nx p) + 100 * (nx (p + 1) - 60) + (numS nx (p + 2)).1)) 82 21 ((S0 + T.length : Nat) + 1 : Int)) W (T ++ [liS (nx p) * 1000 + siS (nx (p + 1)) * 100 + (numS nx (p + 2)).1]) S0 := ⟨by rw [ug_k (by omega), ug_ne (by omega), hg2 22 (by omega) (by omega)]; exact w0, by rw [ug_k (by omega), ug_ne (by omega), hg2 23 (by omega) (by omega)]; exact w1, wst_n (by omega) (wst_n (by omega) (wst_c (fun k _ => by rw [g94 95 (by omega)]) w2)), t3⟩
  obtain ⟨G', R, q1, q2, q3⟩ := sp129 (d := d - 1) (N := N) (L := L) (B := B) (by omega) he3 hw (by rw [List.length_append, List.length_cons, List.length_nil]; omega) h100
  rw [List.append_assoc] at q1
  refine ⟨G', ?_, by rw [q3, ug_k (by omega), ug_ne (by omega), a2], emf_t (emf_t F1 ⟨fun a x y z => by rw [ug_ne x, ug_ne y], fun k x y z w u => by rw [ug_k z, ug_ne (by omega)], fun k hk => by rw [ug_ne (by omega), ug_k (by omega)]⟩) q2, fun _ => q1⟩
  rw [bI_t rfl]
  refine e132 (by omega) ?_
  simp (disch := omega) only [s132_0, s132_1, s132_8, s132_9, s132_10, s132_13, s132_14, s132_14b, s132_15, s132_16, m132_17, s132_20, s132_21, m132_22, s132_25, s132_29, s132_30, s132_31, s132_32, s132_34, s132_39, s132_39b, s132_42, s132_43, s132_43b, s132_44, s132_45, m132_46, s132_49, s132_50, m132_51, s132_54, s132_58, s132_58b, s132_61, s132_62, s132_62b, s132_63, s132_64, s132_67, s132_68, s132_69, s132_71, s132_72, s132_74, s132_75, s132_76, s132_77, m132_78, s132_81, s132_85, s132_89, s132_90, s132_90b, Int.toNat_natCast, Int.toNat_natCast, Nat.reduceAdd, Nat.reduceMul, Int.reduceToNat, Int.reduceAdd, Int.reduceLT, Int.reduceLE, Int.reduceEq, Int.reduceNeg, Int.reduceMul, Int.reduceSub, Nat.reduceSub, reduceIte, ite_true, ite_false, and_true, true_and, and_self, m132_2 h122, m132_5 h131, ha, ep, m132_26 h122a, m132_36 h109, ug_at, ep2, m132_55 s2, d2, m132_82 s3, m132_86 R, eq_false c1, if_false]
