/-! the model reads a text: the stack -/
def wst (G : q_Gi) : List Int → Prop
  | [] => True
  | c :: W => G 95 W.length = c ∧ wst G W
def sgs (G : q_Gi) (S0 : Nat) (T : List Int) : Prop := G 82 21 = ((S0 + T.length : Nat) : Int) ∧ ∀ k, k < T.length → G 94 (S0 + k) = mtk (T.getD k 0)
def est (G : q_Gi) (W T : List Int) (S0 : Nat) : Prop := G 82 22 = (W.length : Int) ∧ G 82 23 = (opn W : Int) ∧ wst G W ∧ sgs G S0 T
/-- the frame of reading an E -/
def emf (S0 : Nat) (G G' : q_Gi) : Prop := (∀ a, a ≠ 82 → a ≠ 94 → a ≠ 95 → G' a = G a) ∧ (∀ k, k ≠ 11 → k ≠ 12 → k ≠ 21 → k ≠ 22 → k ≠ 23 → G' 82 k = G 82 k) ∧ ∀ k, k < S0 → G' 94 k = G 94 k
theorem emf_r (S0 : Nat) (G : q_Gi) : emf S0 G G := ⟨fun _ _ _ _ => rfl, fun _ _ _ _ _ _ => rfl, fun _ _ => rfl⟩
theorem emf_t {S0 : Nat} {G G' G'' : q_Gi} (h1 : emf S0 G G') (h2 : emf S0 G' G'') : emf S0 G G'' := ⟨fun a x y z => (h2.1 a x y z).trans (h1.1 a x y z), fun k x y z w u => (h2.2.1 k x y z w u).trans (h1.2.1 k x y z w u), fun k x => (h2.2.2 k x).trans (h1.2.2 k x)⟩
theorem emf_m {S0 n : Nat} {G G' : q_Gi} {nx : Nat → Int} (h : emf S0 G G') (hm : mrd G n nx) : mrd G' n nx := ⟨by rw [h.2.1 10 (by omega) (by omega) (by omega) (by omega) (by omega)]; exact hm.1, hm.2.1, by rw [h.1 88 (by omega) (by omega) (by omega)]; exact hm.2.2.1, hm.2.2.2⟩
theorem wst_c {G G' : q_Gi} : ∀ {W : List Int}, (∀ k, k < W.length → G' 95 k = G 95 k) → wst G W → wst G' W
  | [], _, _ => trivial
  | c :: W, e, h => ⟨by rw [e _ (by rw [List.length_cons]; omega)]; exact h.1, wst_c (fun k hk => e k (by rw [List.length_cons]; omega)) h.2⟩
theorem wst_u {G : q_Gi} {z : Int} {W : List Int} {n : Nat} (hn : W.length ≤ n) (h : wst G W) : wst (ug G 95 n z) W := wst_c (fun k hk => ug_k (by omega)) h
theorem wst_n {G : q_Gi} {a k : Nat} {z : Int} {W : List Int} (ha : a ≠ 95) (h : wst G W) : wst (ug G a k z) W := wst_c (fun j _ => by rw [ug_ne (by omega)]) h
theorem sgs_n {G : q_Gi} {S0 a k : Nat} {z : Int} {T : List Int} (h : sgs G S0 T) (ha : a ≠ 94) (hk : a = 82 → k ≠ 21) : sgs (ug G a k z) S0 T := by
  refine ⟨?_, fun j hj => by rw [ug_ne (by omega)]; exact h.2 j hj⟩
  by_cases c : a = 82
  · rw [c, ug_k (by have := hk c; omega)]; exact h.1
  · rw [ug_ne (by omega)]; exact h.1
/-- a step is written -/
theorem sp128 {d S0 N L : Nat} {t : Int} {T : List Int} {B : q_Bv} {G : q_Gi} (hd : 1 ≤ d) (h : sgs G S0 T) (hl : S0 + T.length < 600) : Sp d 128 [.ref 82, vI (mtk t)] (hp N L B G) none (hp N L B (ug (ug G 94 (S0 + T.length) (mtk t)) 82 21 ((S0 + T.length : Nat) + 1 : Int))) ∧ sgs (ug (ug G 94 (S0 + T.length) (mtk t)) 82 21 ((S0 + T.length : Nat) + 1 : Int)) S0 (T ++ [t]) := by
  refine ⟨?_, ?_, ?_⟩
  · refine e128 (by omega) ?_
    simp (disch := omega) only [s128_0, m128_1, s128_4, m128_5, s128_8, m128_9, s128_10, s128_11, m128_12, s128_15, s128_16, m128_17, s128_20, Int.toNat_natCast, Int.toNat_natCast, Nat.reduceAdd, Nat.reduceMul, Int.reduceToNat, Int.reduceAdd, Int.reduceLT, Int.reduceLE, Int.reduceEq, Int.reduceNeg, Int.reduceMul, Int.reduceSub, Nat.reduceSub, reduceIte, ite_true, ite_false, and_true, true_and, and_self, h.1, ug_ne]
  · rw [ug_at, List.length_append]; rfl
  · intro k hk
    rw [List.length_append, List.length_cons, List.length_nil] at hk
    rw [ug_ne (by omega)]
    by_cases c : k = T.length
    · rw [c, ug_at, getD_e]
    · rw [ug_k (by omega), getD_l (by omega)]; exact h.2 k (by omega)
theorem lp129 {d S0 N L : Nat} {B : q_Bv} (hd : 2 ≤ d) {Q : Option Value → q_H → Prop} : ∀ (W T : List Int) (G : q_Gi), est G W T S0 → S0 + T.length + W.length < 600 → W.length ≤ 100 → (∀ G' : q_Gi, est G' (popN W) (T ++ nots W) S0 → emf S0 G G' → G' 82 11 = G 82 11 → Q none (hp N L B G')) → WP d 129 0 [.ref 82] [] (hp N L B G) Q := by
  intro W
  induction W with
  | nil =>
    intro T G h hl h100 hQ
    obtain ⟨w0, w1, w2, w3⟩ := h
    have := hQ G ⟨w0, w1, w2, by rw [show nots [] = [] from rfl, List.append_nil]; exact w3⟩ (emf_r S0 G) rfl
    rw [List.length_nil] at w0
    simp (disch := omega) only [s129_0, m129_1, s129_4, s129_7, m129_8, s129_11, m129_12, s129_15, s129_16, m129_17, s129_18, s129_20, s129_20b, s129_23, s129_24, s129_29, s129_30, m129_31, s129_34, s129_35, m129_36, s129_39, s129_40, m129_41, s129_44, s129_45, m129_46, s129_49, s129_52, Int.toNat_natCast, Int.toNat_natCast, Nat.reduceAdd, Nat.reduceMul, Int.reduceToNat, Int.reduceAdd, Int.reduceLT, Int.reduceLE, Int.reduceEq, Int.reduceNeg, Int.reduceMul, Int.reduceSub, Nat.reduceSub, reduceIte, ite_true, ite_false, and_true, true_and, and_self, w0, show ((0 : Nat) : Int) = 0 from rfl]
    exact this
  | cons c W ih =>
    intro T G h hl h100 hQ
    obtain ⟨w0, w1, w2, w3⟩ := h
    rw [List.length_cons] at w0 hl h100
    have n0 : 0 < ((W.length + 1 : Nat) : Int) := by omega
    have n0' : ¬ ((W.length + 1 : Nat) : Int) ≤ 0 := by omega
    have e1 : ((W.length + 1 : Nat) : Int) - 1 = (W.length : Int) := by omega
    have w95 := w2.1
    by_cases c1 : c = 33
    · subst c1
      have e2 : popN (33 :: W) = popN W := rfl
      have e3 : nots (33 :: W) = -3 :: nots W := rfl
      rw [e2, e3] at hQ
      obtain ⟨s1, t1⟩ := sp128 (d := d) (t := -3) (N := N) (L := L) (B := B) (by omega) w3 (by omega)
      have em : mtk (-3) = -33 := rfl
      rw [em] at s1 t1
      have wop : opn (33 :: W) = opn W + 1 := rfl
      rw [wop] at w1
      have e4 : ((opn W + 1 : Nat) : Int) - 1 = (opn W : Int) := by omega
      have := ih (T ++ [-3]) (ug (ug (ug (ug G 94 (S0 + T.length) (-33)) 82 21 ((S0 + T.length : Nat) + 1 : Int)) 82 22 (W.length : Int)) 82 23 (opn W : Int)) ⟨by rw [ug_k (by omega), ug_at], ug_at, wst_n (by omega) (wst_n (by omega) (wst_n (by omega) (wst_n (by omega) w2.2))), sgs_n (sgs_n t1 (by omega) (by omega)) (by omega) (by omega)⟩ (by rw [List.length_append, List.length_cons, List.length_nil]; omega) (by omega) (fun G' q1 q2 q3 => hQ G' (by rw [List.append_assoc] at q1; exact q1) (emf_t ⟨fun a x y z => by rw [ug_ne x, ug_ne x, ug_ne x, ug_ne y], fun k x y z w u => by rw [ug_k u, ug_k w, ug_k z, ug_ne (by omega)], fun k hk => by rw [ug_ne (by omega), ug_ne (by omega), ug_ne (by omega), ug_k (by omega)]⟩ q2) (by rw [q3, ug_k (by omega), ug_k (by omega), ug_k (by omega), ug_ne (by omega)]))
      rw [s129_0]
      simp (disch := omega) only [m129_1, s129_4, s129_7, m129_8, s129_11, m129_12, s129_15, s129_16, m129_17, s129_18, s129_20, s129_20b, s129_23, s129_24, s129_29, s129_30, m129_31, s129_34, s129_35, m129_36, s129_39, s129_40, m129_41, s129_44, s129_45, m129_46, s129_49, Int.toNat_natCast, Int.toNat_natCast, Nat.reduceAdd, Nat.reduceMul, Int.reduceToNat, Int.reduceAdd, Int.reduceLT, Int.reduceLE, Int.reduceEq, Int.reduceNeg, Int.reduceMul, Int.reduceSub, Nat.reduceSub, reduceIte, ite_true, ite_false, and_true, true_and, and_self, w0, n0, n0', e1, w95, m129_26 s1, ug_k, ug_ne, w1, e4]
      exact this
    · have e2 : popN (c :: W) = c :: W := by
        show (if c = 33 then popN W else c :: W) = _
        rw [if_neg c1]
      have e3 : nots (c :: W) = [] := by
        show (if c = 33 then -3 :: nots W else []) = _
        rw [if_neg c1]
      have c1' := eq_false c1
      have := hQ G (by rw [e2, e3, List.append_nil]; exact ⟨w0, w1, w2, w3⟩) (emf_r S0 G) rfl
      sorry
