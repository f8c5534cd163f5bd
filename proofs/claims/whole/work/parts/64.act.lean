/-! the class's act -/
def bodS (f a : Int) : Int := ([10, 11, 12, 10, 20, 12, 30, 11, 12, 10, 11, 40, 50, 51, 12, 30, 11, 60, 71, 70, 40] : List Int).getD (f * 3 + a).toNat 0
theorem sp2 {d : Nat} {f a : Int} {X : q_H} (hd : 1 ≤ d) (hf : 0 ≤ f ∧ f ≤ 6) (ha : 0 ≤ a ∧ a ≤ 2) : Sp d 2 [vI f, vI a] X (some (vI (bodS f a))) X := by
  refine e2 (by omega) ?_
  have r0 : q_ro 1002 0 = vI (-1) := rfl
  have r1 : q_ro 1002 1 = vI (0) := rfl
  have r2 : q_ro 1002 2 = vI (0) := rfl
  have r3 : q_ro 1002 3 = vI (0) := rfl
  have r4 : q_ro 1002 4 = vI (1) := rfl
  have r5 : q_ro 1002 5 = vI (2) := rfl
  have r6 : q_ro 1002 6 = vI (3) := rfl
  have b0 : q_ro 1003 0 = vI 10 := rfl
  have b1 : q_ro 1003 1 = vI 11 := rfl
  have b2 : q_ro 1003 2 = vI 12 := rfl
  have b3 : q_ro 1003 3 = vI 0 := rfl
  have b4 : q_ro 1003 4 = vI 20 := rfl
  have b5 : q_ro 1003 5 = vI 0 := rfl
  have b6 : q_ro 1003 6 = vI 30 := rfl
  have b7 : q_ro 1003 7 = vI 0 := rfl
  have b8 : q_ro 1003 8 = vI 0 := rfl
  have b9 : q_ro 1003 9 = vI 0 := rfl
  have b10 : q_ro 1003 10 = vI 0 := rfl
  have b11 : q_ro 1003 11 = vI 40 := rfl
  have b12 : q_ro 1003 12 = vI 50 := rfl
  have b13 : q_ro 1003 13 = vI 51 := rfl
  have b14 : q_ro 1003 14 = vI 0 := rfl
  have b15 : q_ro 1003 15 = vI 0 := rfl
  have b16 : q_ro 1003 16 = vI 0 := rfl
  have b17 : q_ro 1003 17 = vI 60 := rfl
  have b18 : q_ro 1003 18 = vI 71 := rfl
  have b19 : q_ro 1003 19 = vI 70 := rfl
  have b20 : q_ro 1003 20 = vI 0 := rfl
  have hk' : f = 0 ∨ f = 1 ∨ f = 2 ∨ f = 3 ∨ f = 4 ∨ f = 5 ∨ f = 6 := by omega
  have ha' : a = 0 ∨ a = 1 ∨ a = 2 := by omega
  rcases hk' with rfl | rfl | rfl | rfl | rfl | rfl | rfl
  all_goals
    rcases ha' with rfl | rfl | rfl
    all_goals
      simp (disch := omega) only [s2_0, s2_1, s2_2, s2_3, s2_4, s2_5, s2_6, s2_9, s2_10, s2_13, s2_16, s2_17, s2_18, s2_19, s2_20, s2_21, s2_22, s2_24, s2_26, s2_26b, s2_29, s2_31, s2_32, s2_35, s2_36, s2_37, s2_38, s2_41, s2_44, s2_45, Int.toNat_natCast, Int.toNat_natCast, Nat.reduceAdd, Nat.reduceMul, Int.reduceToNat, Int.reduceAdd, Int.reduceLT, Int.reduceLE, Int.reduceEq, Int.reduceNeg, Int.reduceMul, Int.reduceSub, Nat.reduceSub, reduceIte, ite_true, ite_false, and_true, true_and, and_self, r0, r1, r2, r3, r4, r5, r6, b0, b1, b2, b3, b4, b5, b6, b7, b8, b9, b10, b11, b12, b13, b14, b15, b16, b17, b18, b19, b20]
      rfl
def swS (K i w x : Int) : Int × List Int := if K = 2 ∨ K = 5 then (x * 3 + i, [30, 10]) else if K = 4 then (-(x + i), [50, 10]) else if K = 6 then (ixor (x + i) w, [71, 10]) else (x + i, [10])
def ri0S (K i w x : Int) : Int × List Int := ((swS K i w x).1 - w, 11 :: (swS K i w x).2)
def ri1S (K i w x : Int) : Int × List Int := (ixor (ri0S K i w x).1 6, 20 :: (ri0S K i w x).2)
def riS (K i w x : Int) : Int × List Int := if K = 1 then ri1S K i w x else if K = 4 then ((ri1S K i w (x + 1)).1, 51 :: (ri1S K i w (x + 1)).2) else if K = 6 then ((ri0S K i w x).1 + (2 + i), 70 :: ((ri0S K i w x).2 ++ [10])) else ri0S K i w x
def te0S (K i w x : Int) : Int × List Int := ((riS K i w x).1 * 2, 12 :: (riS K i w x).2)
def teS (K i w x : Int) : Int × List Int := if K = 3 ∨ K = 6 then ((te0S K i w x).1 + (riS K i w 1).1, 40 :: ((te0S K i w x).2 ++ (riS K i w 1).2)) else if K = 5 then ((te0S K i w (x - i)).1, 60 :: (te0S K i w (x - i)).2) else te0S K i w x
theorem swS_l (K i w x : Int) : 1 ≤ (swS K i w x).2.length ∧ (swS K i w x).2.length ≤ 2 := by
  unfold swS
  by_cases c1 : K = 2 ∨ K = 5
  · rw [if_pos c1]; simp
  by_cases c2 : K = 4
  · rw [if_neg c1, if_pos c2]; simp
  by_cases c3 : K = 6
  · rw [if_neg c1, if_neg c2, if_pos c3]; simp
  · rw [if_neg c1, if_neg c2, if_neg c3]; simp
theorem riS_l (K i w x : Int) : (riS K i w x).2.length ≤ 5 := by
  unfold riS ri1S ri0S
  have := swS_l K i w x
  have := swS_l K i w (x + 1)
  by_cases c1 : K = 1
  · rw [if_pos c1]; simp only [List.length_cons]; omega
  by_cases c2 : K = 4
  · rw [if_neg c1, if_pos c2]; simp only [List.length_cons]; omega
  by_cases c3 : K = 6
  · rw [if_neg c1, if_neg c2, if_pos c3]; simp only [List.length_cons, List.length_append, List.length_nil]; omega
  · rw [if_neg c1, if_neg c2, if_neg c3]; simp only [List.length_cons]; omega
/-- what an act has done to the class's cells -/
def aOK (K i w : Int) (r : Nat) (G : q_Gi) : Prop := G 62 0 = K ∧ G 62 1 = i ∧ G 62 2 = w ∧ G 62 3 = (r : Int)
def rnG (K i w : Int) (r : Nat) (G : q_Gi) (T : List Int) (G' : q_Gi) : Prop := aOK K i w (r + T.length) G' ∧ (∀ k, k < r → G' 63 k = G 63 k) ∧ (∀ k, k < T.length → G' 63 (r + k) = T.getD k 0) ∧ ∀ a, a ≠ 62 → a ≠ 63 → G' a = G a
def apG (G : q_Gi) (r : Nat) (b : Int) : q_Gi := ug (ug G 63 r b) 62 3 ((r : Int) + 1)
theorem apG_ok {K i w b : Int} {r : Nat} {G : q_Gi} (h : aOK K i w r G) : aOK K i w (r + 1) (apG G r b) := by
  obtain ⟨h0, h1, h2, h3⟩ := h
  unfold apG
  refine ⟨?_, ?_, ?_, ?_⟩
  · rw [ug_k (by omega), ug_ne (by omega), h0]
  · rw [ug_k (by omega), ug_ne (by omega), h1]
  · rw [ug_k (by omega), ug_ne (by omega), h2]
  · rw [ug_at]; rfl
theorem rn_cons {K i w b : Int} {r : Nat} {G G' : q_Gi} {T : List Int} (h : rnG K i w (r + 1) (apG G r b) T G') : rnG K i w r G (b :: T) G' := by
  obtain ⟨h1, h2, h3, h4⟩ := h
  refine ⟨?_, ?_, ?_, ?_⟩
  · rw [List.length_cons, show r + (T.length + 1) = r + 1 + T.length by omega]; exact h1
  · intro k hk
    rw [h2 k (by omega)]; unfold apG; rw [ug_ne (by omega), ug_k (by omega)]
  · intro k hk
    cases k with
    | zero => rw [Nat.add_zero, h2 r (by omega)]; unfold apG; rw [ug_ne (by omega), ug_at]; rfl
    | succ k => rw [List.length_cons] at hk; rw [show r + (k + 1) = r + 1 + k by omega, h3 k (by omega)]; rfl
  · intro a a1 a2
    rw [h4 a a1 a2]; unfold apG; rw [ug_ne a1, ug_ne a2]
theorem rn_nil {K i w : Int} {r : Nat} {G : q_Gi} (h : aOK K i w r G) : rnG K i w r G [] G := ⟨h, fun _ _ => rfl, fun k hk => absurd hk (Nat.not_lt_zero k), fun _ _ _ => rfl⟩
theorem rn_app {K i w : Int} {r : Nat} {G G1 G2 : q_Gi} {T1 T2 : List Int} (h1 : rnG K i w r G T1 G1) (h2 : rnG K i w (r + T1.length) G1 T2 G2) : rnG K i w r G (T1 ++ T2) G2 := by
  obtain ⟨a1, a2, a3, a4⟩ := h1
  obtain ⟨b1, b2, b3, b4⟩ := h2
  refine ⟨?_, ?_, ?_, ?_⟩
  · rw [List.length_append, ← Nat.add_assoc]; exact b1
  · intro k hk; rw [b2 k (by omega), a2 k hk]
  · intro k hk
    rw [List.length_append] at hk
    by_cases c : k < T1.length
    · rw [b2 _ (by omega), a3 k c, List.getD_eq_getElem?_getD, List.getD_eq_getElem?_getD, List.getElem?_append_left c]
    · have := b3 (k - T1.length) (by omega)
      rw [show r + T1.length + (k - T1.length) = r + k by omega] at this
      rw [this, List.getD_eq_getElem?_getD, List.getD_eq_getElem?_getD, List.getElem?_append_right (by omega)]
  · intro a x y; rw [b4 a x y, a4 a x y]
/-- a body without a body behind it -/
theorem sp1_10 {d r N L : Nat} {f K i w x y : Int} {B : q_Bv} {G : q_Gi} (hd : 3 ≤ d) (hf : f = 0 ∨ f = 1 ∨ f = 3) (h : aOK K i w r G) (hr : r ≤ 19) (hy : 0 ≤ y ∧ y ≤ 20) : ∃ G', Sp d 1 [.ref 62, vI f, vI 0, vI x, vI y] (hp N L B G) (some (vI (x + i))) (hp N L B G') ∧ rnG K i w r G [10] G' := by
  have h2 := sp2 (d := d - 1) (f := f) (a := 0) (X := hp N L B G) (by omega) (by omega) (by omega)
  have eb : bodS f 0 = 10 := by rcases hf with rfl | rfl | rfl <;> rfl
  rw [eb] at h2
  refine ⟨apG G r 10, ?_, rn_cons (rn_nil (apG_ok h))⟩
  obtain ⟨a0, a1, a2, a3⟩ := h
  have hr2 : (r : Int) < 20 := by omega
  have hy2 : ¬ 20 < y := by omega
  refine e1 (by omega) ?_
  simp (disch := omega) only [s1_0, s1_1, s1_5, s1_7, s1_9, s1_9b, s1_12, s1_14, s1_16, s1_19, s1_20, s1_21, m1_22, s1_25, m1_26, m1_29, s1_30, s1_33, m1_34, s1_37, m1_38, s1_41, m1_43, s1_44, s1_45, m1_46, s1_49, s1_50, m1_51, s1_54, s1_56, s1_57, s1_58, s1_60, s1_62, s1_152, s1_153, m1_154, s1_157, s1_158, s1_159, s1_160, m1_161, s1_164, s1_165, s1_166, s1_171, m1_172, s1_175, s1_176, s1_177, s1_178, m1_179, s1_182, s1_183, s1_184, s1_189, s1_190, s1_191, s1_192, s1_193, s1_194, s1_195, s1_196, s1_201, s1_203, s1_204, s1_205, s1_206, s1_207, s1_208, s1_209, s1_210, s1_211, s1_216, s1_217, s1_218, s1_219, s1_220, s1_221, s1_226, s1_227, m1_228, s1_231, s1_232, s1_233, s1_238, s1_239, s1_240, s1_241, s1_242, s1_243, s1_244, s1_249, s1_250, s1_251, s1_252, s1_253, s1_254, s1_255, s1_256, s1_257, s1_262, s1_263, s1_264, s1_265, s1_266, s1_267, m1_268, s1_271, s1_272, s1_277, s1_278, s1_279, s1_280, s1_281, s1_282, s1_287, s1_288, s1_289, s1_290, s1_291, s1_296, s1_297, s1_298, s1_299, s1_300, s1_301, s1_302, s1_307, m1_308, s1_311, s1_312, Int.toNat_natCast, Int.toNat_natCast, Nat.reduceAdd, Nat.reduceMul, Int.reduceToNat, Int.reduceAdd, Int.reduceLT, Int.reduceLE, Int.reduceEq, Int.reduceNeg, Int.reduceMul, Int.reduceSub, Nat.reduceSub, reduceIte, ite_true, ite_false, and_true, true_and, and_self, c1_2 h2, a3, a1, hr2, hy2, ug_ne, ug_k, apG]
theorem sp1_30 {d r N L : Nat} {K i w x y : Int} {B : q_Bv} {G : q_Gi} (hd : 4 ≤ d) (hf : K = 2 ∨ K = 5) (hK : 0 ≤ K ∧ K ≤ 6) (h : aOK K i w r G) (hr : r ≤ 17) (hy : 0 ≤ y ∧ y ≤ 18) : ∃ G', Sp d 1 [.ref 62, vI K, vI 0, vI x, vI y] (hp N L B G) (some (vI (x * 3 + i))) (hp N L B G') ∧ rnG K i w r G ([30, 10]) G' := by
  have h2 := sp2 (d := d - 1) (f := K) (a := 0) (X := hp N L B G) (by omega) (by omega) (by omega)
  rw [show bodS K 0 = 30 from by rcases hf with rfl | rfl <;> rfl] at h2
  have h' := apG_ok (b := 30) h
  obtain ⟨G1, s1, t1⟩ := sp1_10 (d := d - 1) (N := N) (L := L) (B := B) (x := x * 3) (y := y + 1) (by omega) (Or.inl rfl) h' (by omega) (by omega)
  refine ⟨G1, ?_, rn_cons t1⟩
  have hr2 : (r : Int) < 20 := by omega
  have hy2 : ¬ 20 < y := by omega
  obtain ⟨a0, a1, a2, a3⟩ := h
  obtain ⟨⟨b00, b01, b02, b03⟩, _⟩ := t1
  unfold apG at s1
  refine e1 (by omega) ?_
  simp (disch := omega) only [s1_0, s1_1, s1_5, s1_7, s1_9, s1_9b, s1_12, s1_14, s1_16, s1_19, s1_20, s1_21, m1_22, s1_25, m1_26, m1_29, s1_30, s1_33, m1_34, s1_37, m1_38, s1_41, m1_43, s1_44, s1_45, m1_46, s1_49, s1_50, m1_51, s1_54, s1_56, s1_57, s1_58, s1_60, s1_62, s1_152, s1_153, m1_154, s1_157, s1_158, s1_159, s1_160, m1_161, s1_164, s1_165, s1_166, s1_171, m1_172, s1_175, s1_176, s1_177, s1_178, m1_179, s1_182, s1_183, s1_184, s1_189, s1_190, s1_191, s1_192, s1_193, s1_194, s1_195, s1_196, s1_201, s1_203, s1_204, s1_205, s1_206, s1_207, s1_208, s1_209, s1_210, s1_211, s1_216, s1_217, s1_218, s1_219, s1_220, s1_221, s1_226, s1_227, m1_228, s1_231, s1_232, s1_233, s1_238, s1_239, s1_240, s1_241, s1_242, s1_243, s1_244, s1_249, s1_250, s1_251, s1_252, s1_253, s1_254, s1_255, s1_256, s1_257, s1_262, s1_263, s1_264, s1_265, s1_266, s1_267, m1_268, s1_271, s1_272, s1_277, s1_278, s1_279, s1_280, s1_281, s1_282, s1_287, s1_288, s1_289, s1_290, s1_291, s1_296, s1_297, s1_298, s1_299, s1_300, s1_301, s1_302, s1_307, m1_308, s1_311, s1_312, Int.toNat_natCast, Int.toNat_natCast, Nat.reduceAdd, Nat.reduceMul, Int.reduceToNat, Int.reduceAdd, Int.reduceLT, Int.reduceLE, Int.reduceEq, Int.reduceNeg, Int.reduceMul, Int.reduceSub, Nat.reduceSub, reduceIte, ite_true, ite_false, and_true, true_and, and_self, c1_2 h2, a0, a1, a2, a3, hr2, hy2, ug_ne, ug_k, m1_213 s1, b00, b01, b02]
theorem sp1_50 {d r N L : Nat} {K i w x y : Int} {B : q_Bv} {G : q_Gi} (hd : 4 ≤ d) (hK : 0 ≤ K ∧ K ≤ 6) (h : aOK K i w r G) (hr : r ≤ 17) (hy : 0 ≤ y ∧ y ≤ 18) : ∃ G', Sp d 1 [.ref 62, vI 4, vI 0, vI x, vI y] (hp N L B G) (some (vI (-(x + i)))) (hp N L B G') ∧ rnG K i w r G ([50, 10]) G' := by
  have h2 := sp2 (d := d - 1) (f := 4) (a := 0) (X := hp N L B G) (by omega) (by omega) (by omega)
  rw [show bodS 4 0 = 50 from rfl] at h2
  have h' := apG_ok (b := 50) h
  obtain ⟨G1, s1, t1⟩ := sp1_10 (d := d - 1) (N := N) (L := L) (B := B) (x := x) (y := y + 1) (by omega) (Or.inr (Or.inl rfl)) h' (by omega) (by omega)
  refine ⟨G1, ?_, rn_cons t1⟩
  have hr2 : (r : Int) < 20 := by omega
  have hy2 : ¬ 20 < y := by omega
  obtain ⟨a0, a1, a2, a3⟩ := h
  obtain ⟨⟨b00, b01, b02, b03⟩, _⟩ := t1
  unfold apG at s1
  refine e1 (by omega) ?_
  simp (disch := omega) only [s1_0, s1_1, s1_5, s1_7, s1_9, s1_9b, s1_12, s1_14, s1_16, s1_19, s1_20, s1_21, m1_22, s1_25, m1_26, m1_29, s1_30, s1_33, m1_34, s1_37, m1_38, s1_41, m1_43, s1_44, s1_45, m1_46, s1_49, s1_50, m1_51, s1_54, s1_56, s1_57, s1_58, s1_60, s1_62, s1_152, s1_153, m1_154, s1_157, s1_158, s1_159, s1_160, m1_161, s1_164, s1_165, s1_166, s1_171, m1_172, s1_175, s1_176, s1_177, s1_178, m1_179, s1_182, s1_183, s1_184, s1_189, s1_190, s1_191, s1_192, s1_193, s1_194, s1_195, s1_196, s1_201, s1_203, s1_204, s1_205, s1_206, s1_207, s1_208, s1_209, s1_210, s1_211, s1_216, s1_217, s1_218, s1_219, s1_220, s1_221, s1_226, s1_227, m1_228, s1_231, s1_232, s1_233, s1_238, s1_239, s1_240, s1_241, s1_242, s1_243, s1_244, s1_249, s1_250, s1_251, s1_252, s1_253, s1_254, s1_255, s1_256, s1_257, s1_262, s1_263, s1_264, s1_265, s1_266, s1_267, m1_268, s1_271, s1_272, s1_277, s1_278, s1_279, s1_280, s1_281, s1_282, s1_287, s1_288, s1_289, s1_290, s1_291, s1_296, s1_297, s1_298, s1_299, s1_300, s1_301, s1_302, s1_307, m1_308, s1_311, s1_312, Int.toNat_natCast, Int.toNat_natCast, Nat.reduceAdd, Nat.reduceMul, Int.reduceToNat, Int.reduceAdd, Int.reduceLT, Int.reduceLE, Int.reduceEq, Int.reduceNeg, Int.reduceMul, Int.reduceSub, Nat.reduceSub, reduceIte, ite_true, ite_false, and_true, true_and, and_self, c1_2 h2, a0, a1, a2, a3, hr2, hy2, ug_ne, ug_k, m1_246 s1, b00, b01, b02]
theorem sp1_71 {d r N L : Nat} {K i w x y : Int} {B : q_Bv} {G : q_Gi} (hd : 4 ≤ d) (hK : 0 ≤ K ∧ K ≤ 6) (h : aOK K i w r G) (hr : r ≤ 17) (hy : 0 ≤ y ∧ y ≤ 18) : ∃ G', Sp d 1 [.ref 62, vI 6, vI 0, vI x, vI y] (hp N L B G) (some (vI (ixor (x + i) w))) (hp N L B G') ∧ rnG K i w r G ([71, 10]) G' := by
  have h2 := sp2 (d := d - 1) (f := 6) (a := 0) (X := hp N L B G) (by omega) (by omega) (by omega)
  rw [show bodS 6 0 = 71 from rfl] at h2
  have h' := apG_ok (b := 71) h
  obtain ⟨G1, s1, t1⟩ := sp1_10 (d := d - 1) (N := N) (L := L) (B := B) (x := x) (y := y + 1) (by omega) (Or.inr (Or.inr rfl)) h' (by omega) (by omega)
  refine ⟨G1, ?_, rn_cons t1⟩
  have hr2 : (r : Int) < 20 := by omega
  have hy2 : ¬ 20 < y := by omega
  obtain ⟨a0, a1, a2, a3⟩ := h
  obtain ⟨⟨b00, b01, b02, b03⟩, _⟩ := t1
  unfold apG at s1
  refine e1 (by omega) ?_
  simp (disch := omega) only [s1_0, s1_1, s1_5, s1_7, s1_9, s1_9b, s1_12, s1_14, s1_16, s1_19, s1_20, s1_21, m1_22, s1_25, m1_26, m1_29, s1_30, s1_33, m1_34, s1_37, m1_38, s1_41, m1_43, s1_44, s1_45, m1_46, s1_49, s1_50, m1_51, s1_54, s1_56, s1_57, s1_58, s1_60, s1_62, s1_152, s1_153, m1_154, s1_157, s1_158, s1_159, s1_160, m1_161, s1_164, s1_165, s1_166, s1_171, m1_172, s1_175, s1_176, s1_177, s1_178, m1_179, s1_182, s1_183, s1_184, s1_189, s1_190, s1_191, s1_192, s1_193, s1_194, s1_195, s1_196, s1_201, s1_203, s1_204, s1_205, s1_206, s1_207, s1_208, s1_209, s1_210, s1_211, s1_216, s1_217, s1_218, s1_219, s1_220, s1_221, s1_226, s1_227, m1_228, s1_231, s1_232, s1_233, s1_238, s1_239, s1_240, s1_241, s1_242, s1_243, s1_244, s1_249, s1_250, s1_251, s1_252, s1_253, s1_254, s1_255, s1_256, s1_257, s1_262, s1_263, s1_264, s1_265, s1_266, s1_267, m1_268, s1_271, s1_272, s1_277, s1_278, s1_279, s1_280, s1_281, s1_282, s1_287, s1_288, s1_289, s1_290, s1_291, s1_296, s1_297, s1_298, s1_299, s1_300, s1_301, s1_302, s1_307, m1_308, s1_311, s1_312, Int.toNat_natCast, Int.toNat_natCast, Nat.reduceAdd, Nat.reduceMul, Int.reduceToNat, Int.reduceAdd, Int.reduceLT, Int.reduceLE, Int.reduceEq, Int.reduceNeg, Int.reduceMul, Int.reduceSub, Nat.reduceSub, reduceIte, ite_true, ite_false, and_true, true_and, and_self, c1_2 h2, a0, a1, a2, a3, hr2, hy2, ug_ne, ug_k, m1_304 s1, b00, b01, b02]
theorem sp1_sw {d r N L : Nat} {K i w x y : Int} {B : q_Bv} {G : q_Gi} (hd : 4 ≤ d) (hK : 0 ≤ K ∧ K ≤ 6) (h : aOK K i w r G) (hr : r ≤ 17) (hy : 0 ≤ y ∧ y ≤ 18) : ∃ G', Sp d 1 [.ref 62, vI K, vI 0, vI x, vI y] (hp N L B G) (some (vI (swS K i w x).1)) (hp N L B G') ∧ rnG K i w r G (swS K i w x).2 G' := by
  by_cases c1 : K = 2 ∨ K = 5
  · unfold swS; rw [if_pos c1]; exact sp1_30 hd c1 hK h hr hy
  by_cases c2 : K = 4
  · unfold swS; rw [if_neg c1, if_pos c2]; subst c2; exact sp1_50 hd hK h hr hy
  by_cases c3 : K = 6
  · unfold swS; rw [if_neg c1, if_neg c2, if_pos c3]; subst c3; exact sp1_71 hd hK h hr hy
  · unfold swS; rw [if_neg c1, if_neg c2, if_neg c3]; exact sp1_10 (by omega) (by omega) h (by omega) (by omega)
theorem sp1_11 {d r N L : Nat} {f K i w x y : Int} {B : q_Bv} {G : q_Gi} (hd : 5 ≤ d) (hf : f = 0 ∨ f = 2 ∨ f = 3 ∨ f = 5) (hK : 0 ≤ K ∧ K ≤ 6) (h : aOK K i w r G) (hr : r ≤ 16) (hy : 0 ≤ y ∧ y ≤ 17) : ∃ G', Sp d 1 [.ref 62, vI f, vI 1, vI x, vI y] (hp N L B G) (some (vI ((ri0S K i w x).1))) (hp N L B G') ∧ rnG K i w r G ((ri0S K i w x).2) G' := by
  have h2 := sp2 (d := d - 1) (f := f) (a := 1) (X := hp N L B G) (by omega) (by omega) (by omega)
  rw [show bodS f 1 = 11 from by rcases hf with rfl | rfl | rfl | rfl <;> rfl] at h2
  have h' := apG_ok (b := 11) h
  obtain ⟨G1, s1, t1⟩ := sp1_sw (d := d - 1) (N := N) (L := L) (B := B) (x := x) (y := y + 1) (by omega) hK h' (by omega) (by omega)
  refine ⟨G1, ?_, rn_cons t1⟩
  have hr2 : (r : Int) < 20 := by omega
  have hy2 : ¬ 20 < y := by omega
  obtain ⟨a0, a1, a2, a3⟩ := h
  obtain ⟨⟨b00, b01, b02, b03⟩, _⟩ := t1
  unfold apG at s1
  refine e1 (by omega) ?_
  simp (disch := omega) only [s1_0, s1_1, s1_5, s1_7, s1_9, s1_9b, s1_12, s1_14, s1_16, s1_19, s1_20, s1_21, m1_22, s1_25, m1_26, m1_29, s1_30, s1_33, m1_34, s1_37, m1_38, s1_41, m1_43, s1_44, s1_45, m1_46, s1_49, s1_50, m1_51, s1_54, s1_56, s1_57, s1_58, s1_60, s1_62, s1_152, s1_153, m1_154, s1_157, s1_158, s1_159, s1_160, m1_161, s1_164, s1_165, s1_166, s1_171, m1_172, s1_175, s1_176, s1_177, s1_178, m1_179, s1_182, s1_183, s1_184, s1_189, s1_190, s1_191, s1_192, s1_193, s1_194, s1_195, s1_196, s1_201, s1_203, s1_204, s1_205, s1_206, s1_207, s1_208, s1_209, s1_210, s1_211, s1_216, s1_217, s1_218, s1_219, s1_220, s1_221, s1_226, s1_227, m1_228, s1_231, s1_232, s1_233, s1_238, s1_239, s1_240, s1_241, s1_242, s1_243, s1_244, s1_249, s1_250, s1_251, s1_252, s1_253, s1_254, s1_255, s1_256, s1_257, s1_262, s1_263, s1_264, s1_265, s1_266, s1_267, m1_268, s1_271, s1_272, s1_277, s1_278, s1_279, s1_280, s1_281, s1_282, s1_287, s1_288, s1_289, s1_290, s1_291, s1_296, s1_297, s1_298, s1_299, s1_300, s1_301, s1_302, s1_307, m1_308, s1_311, s1_312, Int.toNat_natCast, Int.toNat_natCast, Nat.reduceAdd, Nat.reduceMul, Int.reduceToNat, Int.reduceAdd, Int.reduceLT, Int.reduceLE, Int.reduceEq, Int.reduceNeg, Int.reduceMul, Int.reduceSub, Nat.reduceSub, reduceIte, ite_true, ite_false, and_true, true_and, and_self, c1_2 h2, a0, a1, a2, a3, hr2, hy2, ug_ne, ug_k, m1_168 s1, b00, b01, b02]
  rfl
theorem sp1_20 {d r N L : Nat} {K i w x y : Int} {B : q_Bv} {G : q_Gi} (hd : 6 ≤ d) (hK : 0 ≤ K ∧ K ≤ 6) (h : aOK K i w r G) (hr : r ≤ 15) (hy : 0 ≤ y ∧ y ≤ 16) : ∃ G', Sp d 1 [.ref 62, vI 1, vI 1, vI x, vI y] (hp N L B G) (some (vI ((ri1S K i w x).1))) (hp N L B G') ∧ rnG K i w r G ((ri1S K i w x).2) G' := by
  have h2 := sp2 (d := d - 1) (f := 1) (a := 1) (X := hp N L B G) (by omega) (by omega) (by omega)
  rw [show bodS 1 1 = 20 from rfl] at h2
  have h' := apG_ok (b := 20) h
  obtain ⟨G1, s1, t1⟩ := sp1_11 (d := d - 1) (N := N) (L := L) (B := B) (x := x) (y := y + 1) (by omega) (Or.inl rfl) hK h' (by omega) (by omega)
  refine ⟨G1, ?_, rn_cons t1⟩
  have hr2 : (r : Int) < 20 := by omega
  have hy2 : ¬ 20 < y := by omega
  obtain ⟨a0, a1, a2, a3⟩ := h
  obtain ⟨⟨b00, b01, b02, b03⟩, _⟩ := t1
  unfold apG at s1
  refine e1 (by omega) ?_
  simp (disch := omega) only [s1_0, s1_1, s1_5, s1_7, s1_9, s1_9b, s1_12, s1_14, s1_16, s1_19, s1_20, s1_21, m1_22, s1_25, m1_26, m1_29, s1_30, s1_33, m1_34, s1_37, m1_38, s1_41, m1_43, s1_44, s1_45, m1_46, s1_49, s1_50, m1_51, s1_54, s1_56, s1_57, s1_58, s1_60, s1_62, s1_152, s1_153, m1_154, s1_157, s1_158, s1_159, s1_160, m1_161, s1_164, s1_165, s1_166, s1_171, m1_172, s1_175, s1_176, s1_177, s1_178, m1_179, s1_182, s1_183, s1_184, s1_189, s1_190, s1_191, s1_192, s1_193, s1_194, s1_195, s1_196, s1_201, s1_203, s1_204, s1_205, s1_206, s1_207, s1_208, s1_209, s1_210, s1_211, s1_216, s1_217, s1_218, s1_219, s1_220, s1_221, s1_226, s1_227, m1_228, s1_231, s1_232, s1_233, s1_238, s1_239, s1_240, s1_241, s1_242, s1_243, s1_244, s1_249, s1_250, s1_251, s1_252, s1_253, s1_254, s1_255, s1_256, s1_257, s1_262, s1_263, s1_264, s1_265, s1_266, s1_267, m1_268, s1_271, s1_272, s1_277, s1_278, s1_279, s1_280, s1_281, s1_282, s1_287, s1_288, s1_289, s1_290, s1_291, s1_296, s1_297, s1_298, s1_299, s1_300, s1_301, s1_302, s1_307, m1_308, s1_311, s1_312, Int.toNat_natCast, Int.toNat_natCast, Nat.reduceAdd, Nat.reduceMul, Int.reduceToNat, Int.reduceAdd, Int.reduceLT, Int.reduceLE, Int.reduceEq, Int.reduceNeg, Int.reduceMul, Int.reduceSub, Nat.reduceSub, reduceIte, ite_true, ite_false, and_true, true_and, and_self, c1_2 h2, a0, a1, a2, a3, hr2, hy2, ug_ne, ug_k, m1_198 s1, b00, b01, b02]
  rfl
theorem sp1_51 {d r N L : Nat} {K i w x y : Int} {B : q_Bv} {G : q_Gi} (hd : 7 ≤ d) (hK : 0 ≤ K ∧ K ≤ 6) (h : aOK K i w r G) (hr : r ≤ 14) (hy : 0 ≤ y ∧ y ≤ 15) : ∃ G', Sp d 1 [.ref 62, vI 4, vI 1, vI x, vI y] (hp N L B G) (some (vI ((ri1S K i w (x + 1)).1))) (hp N L B G') ∧ rnG K i w r G (51 :: (ri1S K i w (x + 1)).2) G' := by
  have h2 := sp2 (d := d - 1) (f := 4) (a := 1) (X := hp N L B G) (by omega) (by omega) (by omega)
  rw [show bodS 4 1 = 51 from rfl] at h2
  have h' := apG_ok (b := 51) h
  obtain ⟨G1, s1, t1⟩ := sp1_20 (d := d - 1) (N := N) (L := L) (B := B) (x := x + 1) (y := y + 1) (by omega) hK h' (by omega) (by omega)
  refine ⟨G1, ?_, rn_cons t1⟩
  have hr2 : (r : Int) < 20 := by omega
  have hy2 : ¬ 20 < y := by omega
  obtain ⟨a0, a1, a2, a3⟩ := h
  obtain ⟨⟨b00, b01, b02, b03⟩, _⟩ := t1
  unfold apG at s1
  refine e1 (by omega) ?_
  simp (disch := omega) only [s1_0, s1_1, s1_5, s1_7, s1_9, s1_9b, s1_12, s1_14, s1_16, s1_19, s1_20, s1_21, m1_22, s1_25, m1_26, m1_29, s1_30, s1_33, m1_34, s1_37, m1_38, s1_41, m1_43, s1_44, s1_45, m1_46, s1_49, s1_50, m1_51, s1_54, s1_56, s1_57, s1_58, s1_60, s1_62, s1_152, s1_153, m1_154, s1_157, s1_158, s1_159, s1_160, m1_161, s1_164, s1_165, s1_166, s1_171, m1_172, s1_175, s1_176, s1_177, s1_178, m1_179, s1_182, s1_183, s1_184, s1_189, s1_190, s1_191, s1_192, s1_193, s1_194, s1_195, s1_196, s1_201, s1_203, s1_204, s1_205, s1_206, s1_207, s1_208, s1_209, s1_210, s1_211, s1_216, s1_217, s1_218, s1_219, s1_220, s1_221, s1_226, s1_227, m1_228, s1_231, s1_232, s1_233, s1_238, s1_239, s1_240, s1_241, s1_242, s1_243, s1_244, s1_249, s1_250, s1_251, s1_252, s1_253, s1_254, s1_255, s1_256, s1_257, s1_262, s1_263, s1_264, s1_265, s1_266, s1_267, m1_268, s1_271, s1_272, s1_277, s1_278, s1_279, s1_280, s1_281, s1_282, s1_287, s1_288, s1_289, s1_290, s1_291, s1_296, s1_297, s1_298, s1_299, s1_300, s1_301, s1_302, s1_307, m1_308, s1_311, s1_312, Int.toNat_natCast, Int.toNat_natCast, Nat.reduceAdd, Nat.reduceMul, Int.reduceToNat, Int.reduceAdd, Int.reduceLT, Int.reduceLE, Int.reduceEq, Int.reduceNeg, Int.reduceMul, Int.reduceSub, Nat.reduceSub, reduceIte, ite_true, ite_false, and_true, true_and, and_self, c1_2 h2, a0, a1, a2, a3, hr2, hy2, ug_ne, ug_k, m1_259 s1, b00, b01, b02]
theorem sp1_70 {d r N L : Nat} {K i w x y : Int} {B : q_Bv} {G : q_Gi} (hd : 7 ≤ d) (hK : 0 ≤ K ∧ K ≤ 6) (h : aOK K i w r G) (hr : r ≤ 14) (hy : 0 ≤ y ∧ y ≤ 15) : ∃ G', Sp d 1 [.ref 62, vI 6, vI 1, vI x, vI y] (hp N L B G) (some (vI ((ri0S K i w x).1 + (2 + i)))) (hp N L B G') ∧ rnG K i w r G (70 :: ((ri0S K i w x).2 ++ [10])) G' := by
  have h2 := sp2 (d := d - 1) (f := 6) (a := 1) (X := hp N L B G) (by omega) (by omega) (by omega)
  rw [show bodS 6 1 = 70 from rfl] at h2
  have h' := apG_ok (b := 70) h
  obtain ⟨G1, s1, t1⟩ := sp1_11 (d := d - 1) (N := N) (L := L) (B := B) (x := x) (y := y + 1) (by omega) (Or.inr (Or.inr (Or.inl rfl))) hK h' (by omega) (by omega)
  obtain ⟨G2, s2, t2⟩ := sp1_10 (d := d - 1) (N := N) (L := L) (B := B) (x := 2) (y := y + 1) (by omega) (Or.inr (Or.inr rfl)) t1.1 (by have := swS_l K i w x; simp only [ri0S, List.length_cons]; omega) (by omega)
  refine ⟨G2, ?_, rn_cons (rn_app t1 t2)⟩
  have hr2 : (r : Int) < 20 := by omega
  have hy2 : ¬ 20 < y := by omega
  obtain ⟨a0, a1, a2, a3⟩ := h
  obtain ⟨⟨b00, b01, b02, b03⟩, _⟩ := t1
  obtain ⟨⟨b10, b11, b12, b13⟩, _⟩ := t2
  unfold apG at s1
  refine e1 (by omega) ?_
  simp (disch := omega) only [s1_0, s1_1, s1_5, s1_7, s1_9, s1_9b, s1_12, s1_14, s1_16, s1_19, s1_20, s1_21, m1_22, s1_25, m1_26, m1_29, s1_30, s1_33, m1_34, s1_37, m1_38, s1_41, m1_43, s1_44, s1_45, m1_46, s1_49, s1_50, m1_51, s1_54, s1_56, s1_57, s1_58, s1_60, s1_62, s1_152, s1_153, m1_154, s1_157, s1_158, s1_159, s1_160, m1_161, s1_164, s1_165, s1_166, s1_171, m1_172, s1_175, s1_176, s1_177, s1_178, m1_179, s1_182, s1_183, s1_184, s1_189, s1_190, s1_191, s1_192, s1_193, s1_194, s1_195, s1_196, s1_201, s1_203, s1_204, s1_205, s1_206, s1_207, s1_208, s1_209, s1_210, s1_211, s1_216, s1_217, s1_218, s1_219, s1_220, s1_221, s1_226, s1_227, m1_228, s1_231, s1_232, s1_233, s1_238, s1_239, s1_240, s1_241, s1_242, s1_243, s1_244, s1_249, s1_250, s1_251, s1_252, s1_253, s1_254, s1_255, s1_256, s1_257, s1_262, s1_263, s1_264, s1_265, s1_266, s1_267, m1_268, s1_271, s1_272, s1_277, s1_278, s1_279, s1_280, s1_281, s1_282, s1_287, s1_288, s1_289, s1_290, s1_291, s1_296, s1_297, s1_298, s1_299, s1_300, s1_301, s1_302, s1_307, m1_308, s1_311, s1_312, Int.toNat_natCast, Int.toNat_natCast, Nat.reduceAdd, Nat.reduceMul, Int.reduceToNat, Int.reduceAdd, Int.reduceLT, Int.reduceLE, Int.reduceEq, Int.reduceNeg, Int.reduceMul, Int.reduceSub, Nat.reduceSub, reduceIte, ite_true, ite_false, and_true, true_and, and_self, c1_2 h2, a0, a1, a2, a3, hr2, hy2, ug_ne, ug_k, m1_284 s1, m1_293 s2, b00, b01, b02, b10, b11, b12]
theorem sp1_ri {d r N L : Nat} {K i w x y : Int} {B : q_Bv} {G : q_Gi} (hd : 7 ≤ d) (hK : 0 ≤ K ∧ K ≤ 6) (h : aOK K i w r G) (hr : r ≤ 14) (hy : 0 ≤ y ∧ y ≤ 15) : ∃ G', Sp d 1 [.ref 62, vI K, vI 1, vI x, vI y] (hp N L B G) (some (vI (riS K i w x).1)) (hp N L B G') ∧ rnG K i w r G (riS K i w x).2 G' := by
  unfold riS
  by_cases c1 : K = 1
  · rw [if_pos c1]; subst c1; exact sp1_20 (by omega) hK h (by omega) (by omega)
  by_cases c2 : K = 4
  · rw [if_neg c1, if_pos c2]; subst c2; exact sp1_51 hd hK h hr hy
  by_cases c3 : K = 6
  · rw [if_neg c1, if_neg c2, if_pos c3]; subst c3; exact sp1_70 hd hK h hr hy
  · rw [if_neg c1, if_neg c2, if_neg c3]; exact sp1_11 (by omega) (by omega) hK h (by omega) (by omega)
theorem sp1_12 {d r N L : Nat} {f K i w x y : Int} {B : q_Bv} {G : q_Gi} (hd : 8 ≤ d) (hf : f = 0 ∨ f = 1 ∨ f = 2 ∨ f = 4) (hK : 0 ≤ K ∧ K ≤ 6) (h : aOK K i w r G) (hr : r ≤ 13) (hy : 0 ≤ y ∧ y ≤ 14) : ∃ G', Sp d 1 [.ref 62, vI f, vI 2, vI x, vI y] (hp N L B G) (some (vI ((te0S K i w x).1))) (hp N L B G') ∧ rnG K i w r G ((te0S K i w x).2) G' := by
  have h2 := sp2 (d := d - 1) (f := f) (a := 2) (X := hp N L B G) (by omega) (by omega) (by omega)
  rw [show bodS f 2 = 12 from by rcases hf with rfl | rfl | rfl | rfl <;> rfl] at h2
  have h' := apG_ok (b := 12) h
  obtain ⟨G1, s1, t1⟩ := sp1_ri (d := d - 1) (N := N) (L := L) (B := B) (x := x) (y := y + 1) (by omega) hK h' (by omega) (by omega)
  refine ⟨G1, ?_, rn_cons t1⟩
  have hr2 : (r : Int) < 20 := by omega
  have hy2 : ¬ 20 < y := by omega
  obtain ⟨a0, a1, a2, a3⟩ := h
  obtain ⟨⟨b00, b01, b02, b03⟩, _⟩ := t1
  unfold apG at s1
  refine e1 (by omega) ?_
  simp (disch := omega) only [s1_0, s1_1, s1_5, s1_7, s1_9, s1_9b, s1_12, s1_14, s1_16, s1_19, s1_20, s1_21, m1_22, s1_25, m1_26, m1_29, s1_30, s1_33, m1_34, s1_37, m1_38, s1_41, m1_43, s1_44, s1_45, m1_46, s1_49, s1_50, m1_51, s1_54, s1_56, s1_57, s1_58, s1_60, s1_62, s1_152, s1_153, m1_154, s1_157, s1_158, s1_159, s1_160, m1_161, s1_164, s1_165, s1_166, s1_171, m1_172, s1_175, s1_176, s1_177, s1_178, m1_179, s1_182, s1_183, s1_184, s1_189, s1_190, s1_191, s1_192, s1_193, s1_194, s1_195, s1_196, s1_201, s1_203, s1_204, s1_205, s1_206, s1_207, s1_208, s1_209, s1_210, s1_211, s1_216, s1_217, s1_218, s1_219, s1_220, s1_221, s1_226, s1_227, m1_228, s1_231, s1_232, s1_233, s1_238, s1_239, s1_240, s1_241, s1_242, s1_243, s1_244, s1_249, s1_250, s1_251, s1_252, s1_253, s1_254, s1_255, s1_256, s1_257, s1_262, s1_263, s1_264, s1_265, s1_266, s1_267, m1_268, s1_271, s1_272, s1_277, s1_278, s1_279, s1_280, s1_281, s1_282, s1_287, s1_288, s1_289, s1_290, s1_291, s1_296, s1_297, s1_298, s1_299, s1_300, s1_301, s1_302, s1_307, m1_308, s1_311, s1_312, Int.toNat_natCast, Int.toNat_natCast, Nat.reduceAdd, Nat.reduceMul, Int.reduceToNat, Int.reduceAdd, Int.reduceLT, Int.reduceLE, Int.reduceEq, Int.reduceNeg, Int.reduceMul, Int.reduceSub, Nat.reduceSub, reduceIte, ite_true, ite_false, and_true, true_and, and_self, c1_2 h2, a0, a1, a2, a3, hr2, hy2, ug_ne, ug_k, m1_186 s1, b00, b01, b02]
  rfl
theorem sp1_40 {d r N L : Nat} {K i w x y : Int} {B : q_Bv} {G : q_Gi} (hd : 9 ≤ d) (hf : K = 3 ∨ K = 6) (hK : 0 ≤ K ∧ K ≤ 6) (h : aOK K i w r G) (hr : r ≤ 7) (hy : 0 ≤ y ∧ y ≤ 8) : ∃ G', Sp d 1 [.ref 62, vI K, vI 2, vI x, vI y] (hp N L B G) (some (vI ((te0S K i w x).1 + (riS K i w 1).1))) (hp N L B G') ∧ rnG K i w r G (40 :: ((te0S K i w x).2 ++ (riS K i w 1).2)) G' := by
  have h2 := sp2 (d := d - 1) (f := K) (a := 2) (X := hp N L B G) (by omega) (by omega) (by omega)
  rw [show bodS K 2 = 40 from by rcases hf with rfl | rfl <;> rfl] at h2
  have h' := apG_ok (b := 40) h
  obtain ⟨G1, s1, t1⟩ := sp1_12 (d := d - 1) (N := N) (L := L) (B := B) (x := x) (y := y + 1) (by omega) (Or.inl rfl) hK h' (by omega) (by omega)
  obtain ⟨G2, s2, t2⟩ := sp1_ri (d := d - 1) (N := N) (L := L) (B := B) (x := 1) (y := y + 1) (by omega) hK t1.1 (by have := riS_l K i w x; simp only [te0S, List.length_cons]; omega) (by omega)
  refine ⟨G2, ?_, rn_cons (rn_app t1 t2)⟩
  have hr2 : (r : Int) < 20 := by omega
  have hy2 : ¬ 20 < y := by omega
  obtain ⟨a0, a1, a2, a3⟩ := h
  obtain ⟨⟨b00, b01, b02, b03⟩, _⟩ := t1
  obtain ⟨⟨b10, b11, b12, b13⟩, _⟩ := t2
  unfold apG at s1
  refine e1 (by omega) ?_
  simp (disch := omega) only [s1_0, s1_1, s1_5, s1_7, s1_9, s1_9b, s1_12, s1_14, s1_16, s1_19, s1_20, s1_21, m1_22, s1_25, m1_26, m1_29, s1_30, s1_33, m1_34, s1_37, m1_38, s1_41, m1_43, s1_44, s1_45, m1_46, s1_49, s1_50, m1_51, s1_54, s1_56, s1_57, s1_58, s1_60, s1_62, s1_152, s1_153, m1_154, s1_157, s1_158, s1_159, s1_160, m1_161, s1_164, s1_165, s1_166, s1_171, m1_172, s1_175, s1_176, s1_177, s1_178, m1_179, s1_182, s1_183, s1_184, s1_189, s1_190, s1_191, s1_192, s1_193, s1_194, s1_195, s1_196, s1_201, s1_203, s1_204, s1_205, s1_206, s1_207, s1_208, s1_209, s1_210, s1_211, s1_216, s1_217, s1_218, s1_219, s1_220, s1_221, s1_226, s1_227, m1_228, s1_231, s1_232, s1_233, s1_238, s1_239, s1_240, s1_241, s1_242, s1_243, s1_244, s1_249, s1_250, s1_251, s1_252, s1_253, s1_254, s1_255, s1_256, s1_257, s1_262, s1_263, s1_264, s1_265, s1_266, s1_267, m1_268, s1_271, s1_272, s1_277, s1_278, s1_279, s1_280, s1_281, s1_282, s1_287, s1_288, s1_289, s1_290, s1_291, s1_296, s1_297, s1_298, s1_299, s1_300, s1_301, s1_302, s1_307, m1_308, s1_311, s1_312, Int.toNat_natCast, Int.toNat_natCast, Nat.reduceAdd, Nat.reduceMul, Int.reduceToNat, Int.reduceAdd, Int.reduceLT, Int.reduceLE, Int.reduceEq, Int.reduceNeg, Int.reduceMul, Int.reduceSub, Nat.reduceSub, reduceIte, ite_true, ite_false, and_true, true_and, and_self, c1_2 h2, a0, a1, a2, a3, hr2, hy2, ug_ne, ug_k, m1_223 s1, m1_235 s2, b00, b01, b02, b10, b11, b12]
theorem sp1_60 {d r N L : Nat} {K i w x y : Int} {B : q_Bv} {G : q_Gi} (hd : 9 ≤ d) (hK : 0 ≤ K ∧ K ≤ 6) (h : aOK K i w r G) (hr : r ≤ 7) (hy : 0 ≤ y ∧ y ≤ 8) : ∃ G', Sp d 1 [.ref 62, vI 5, vI 2, vI x, vI y] (hp N L B G) (some (vI ((te0S K i w (x - i)).1))) (hp N L B G') ∧ rnG K i w r G (60 :: (te0S K i w (x - i)).2) G' := by
  have h2 := sp2 (d := d - 1) (f := 5) (a := 2) (X := hp N L B G) (by omega) (by omega) (by omega)
  rw [show bodS 5 2 = 60 from rfl] at h2
  have h' := apG_ok (b := 60) h
  obtain ⟨G1, s1, t1⟩ := sp1_12 (d := d - 1) (N := N) (L := L) (B := B) (x := x - i) (y := y + 1) (by omega) (Or.inr (Or.inr (Or.inl rfl))) hK h' (by omega) (by omega)
  refine ⟨G1, ?_, rn_cons t1⟩
  have hr2 : (r : Int) < 20 := by omega
  have hy2 : ¬ 20 < y := by omega
  obtain ⟨a0, a1, a2, a3⟩ := h
  obtain ⟨⟨b00, b01, b02, b03⟩, _⟩ := t1
  unfold apG at s1
  refine e1 (by omega) ?_
  simp (disch := omega) only [s1_0, s1_1, s1_5, s1_7, s1_9, s1_9b, s1_12, s1_14, s1_16, s1_19, s1_20, s1_21, m1_22, s1_25, m1_26, m1_29, s1_30, s1_33, m1_34, s1_37, m1_38, s1_41, m1_43, s1_44, s1_45, m1_46, s1_49, s1_50, m1_51, s1_54, s1_56, s1_57, s1_58, s1_60, s1_62, s1_152, s1_153, m1_154, s1_157, s1_158, s1_159, s1_160, m1_161, s1_164, s1_165, s1_166, s1_171, m1_172, s1_175, s1_176, s1_177, s1_178, m1_179, s1_182, s1_183, s1_184, s1_189, s1_190, s1_191, s1_192, s1_193, s1_194, s1_195, s1_196, s1_201, s1_203, s1_204, s1_205, s1_206, s1_207, s1_208, s1_209, s1_210, s1_211, s1_216, s1_217, s1_218, s1_219, s1_220, s1_221, s1_226, s1_227, m1_228, s1_231, s1_232, s1_233, s1_238, s1_239, s1_240, s1_241, s1_242, s1_243, s1_244, s1_249, s1_250, s1_251, s1_252, s1_253, s1_254, s1_255, s1_256, s1_257, s1_262, s1_263, s1_264, s1_265, s1_266, s1_267, m1_268, s1_271, s1_272, s1_277, s1_278, s1_279, s1_280, s1_281, s1_282, s1_287, s1_288, s1_289, s1_290, s1_291, s1_296, s1_297, s1_298, s1_299, s1_300, s1_301, s1_302, s1_307, m1_308, s1_311, s1_312, Int.toNat_natCast, Int.toNat_natCast, Nat.reduceAdd, Nat.reduceMul, Int.reduceToNat, Int.reduceAdd, Int.reduceLT, Int.reduceLE, Int.reduceEq, Int.reduceNeg, Int.reduceMul, Int.reduceSub, Nat.reduceSub, reduceIte, ite_true, ite_false, and_true, true_and, and_self, c1_2 h2, a0, a1, a2, a3, hr2, hy2, ug_ne, ug_k, m1_274 s1, b00, b01, b02]
theorem sp1_te {d r N L : Nat} {K i w x y : Int} {B : q_Bv} {G : q_Gi} (hd : 9 ≤ d) (hK : 0 ≤ K ∧ K ≤ 6) (h : aOK K i w r G) (hr : r ≤ 7) (hy : 0 ≤ y ∧ y ≤ 8) : ∃ G', Sp d 1 [.ref 62, vI K, vI 2, vI x, vI y] (hp N L B G) (some (vI (teS K i w x).1)) (hp N L B G') ∧ rnG K i w r G (teS K i w x).2 G' := by
  unfold teS
  by_cases c1 : K = 3 ∨ K = 6
  · rw [if_pos c1]; exact sp1_40 hd c1 hK h hr hy
  by_cases c2 : K = 5
  · rw [if_neg c1, if_pos c2]; subst c2; exact sp1_60 hd hK h hr hy
  · rw [if_neg c1, if_neg c2]; exact sp1_12 (by omega) (by omega) hK h (by omega) (by omega)
/-- the trace that lies -/
def av (G : q_Gi) (T : List Int) : Prop := G 62 3 = (T.length : Int) ∧ (∀ k, k < T.length → G 63 k = T.getD k 0) ∧ T.length ≤ 20
def actS (H : q_Gi) (b a x : Int) : Int × List Int := if (0 ≤ b ∧ b < H 0 0) ∧ 0 ≤ a ∧ a ≤ 2 then (if a = 0 then swS (H 1 b.toNat) b (H 2 b.toNat) x else if a = 1 then riS (H 1 b.toNat) b (H 2 b.toNat) x else teS (H 1 b.toNat) b (H 2 b.toNat) x) else (0, [])
theorem te0S_l (K i w x : Int) : (te0S K i w x).2.length ≤ 6 := by have := riS_l K i w x; simp only [te0S, List.length_cons]; omega
theorem teS_l (K i w x : Int) : (teS K i w x).2.length ≤ 12 := by
  have h1 := te0S_l K i w x
  have h2 := te0S_l K i w (x - i)
  have h3 := riS_l K i w 1
  unfold teS
  by_cases c1 : K = 3 ∨ K = 6
  · rw [if_pos c1]; simp only [List.length_cons, List.length_append]; omega
  by_cases c2 : K = 5
  · rw [if_neg c1, if_pos c2]; simp only [List.length_cons]; omega
  · rw [if_neg c1, if_neg c2]; omega
theorem av_of {K i w : Int} {G G' : q_Gi} {T : List Int} (h : rnG K i w 0 G T G') (hl : T.length ≤ 20) : av G' T := by
  obtain ⟨⟨_, _, _, h3⟩, _, h5, _⟩ := h
  refine ⟨by rw [h3, Nat.zero_add], fun k hk => ?_, hl⟩
  have := h5 k hk
  rwa [Nat.zero_add] at this
theorem sp86 {d N L : Nat} {b a x : Int} {B : q_Bv} {G H : q_Gi} (hd : 11 ≤ d) (hv : hv1 G H) (ho : Hok H) (hb : -2147483648 ≤ b ∧ b ≤ 2147483647) (ha : -2147483648 ≤ a ∧ a ≤ 2147483647) : ∃ G', Sp d 86 [.ref 0, vI b, vI a, vI x] (hp N L B G) (some (vI (actS H b a x).1)) (hp N L B G') ∧ av G' (actS H b a x).2 ∧ ∀ c, c ≠ 62 → c ≠ 63 → G' c = G c := by
  obtain ⟨v0, v6, v7, v1, v2, v3, v4, v5⟩ := hv
  have h94 := sp94 (d := d - 1) (N := N) (L := L) (B := B) (G := G) (by omega) hb (by rw [v0]; exact ho.1)
  rw [v0] at h94
  by_cases hB : 0 ≤ b ∧ b < H 0 0
  · by_cases hA : 0 ≤ a ∧ a ≤ 2
    · obtain ⟨n, rfl⟩ : ∃ n : Nat, b = (n : Int) := ⟨b.toNat, by omega⟩
      have hn6 : n < 6 := by have := ho.1; omega
      have hK := ho.2.1 n hn6
      have hw := ho.2.2.1 n hn6
      have hBA : (0 ≤ (n : Int) ∧ (n : Int) < H 0 0) ∧ 0 ≤ a ∧ a ≤ 2 := ⟨hB, hA⟩
      have hA1 : ¬ a < 0 := by omega
      have hA2 : ¬ 2 < a := by omega
      have hA2' : a ≤ 2 := by omega
      have h0 : aOK (H 1 n) n (H 2 n) 0 (ug (ug (ug (ug G 62 0 (H 1 n)) 62 1 (n : Int)) 62 2 (H 2 n)) 62 3 0) := by
        refine ⟨?_, ?_, ?_, ?_⟩
        · rw [ug_k (by omega), ug_k (by omega), ug_k (by omega), ug_at]
        · rw [ug_k (by omega), ug_k (by omega), ug_at]
        · rw [ug_k (by omega), ug_at]
        · rw [ug_at]; rfl
      have key : ∃ G', Sp (d - 1 - 1) 1 [.ref 62, vI (H 1 n), vI a, vI x, vI 0] (hp N L B (ug (ug (ug (ug G 62 0 (H 1 n)) 62 1 (n : Int)) 62 2 (H 2 n)) 62 3 0)) (some (vI (actS H n a x).1)) (hp N L B G') ∧ rnG (H 1 n) n (H 2 n) 0 (ug (ug (ug (ug G 62 0 (H 1 n)) 62 1 (n : Int)) 62 2 (H 2 n)) 62 3 0) (actS H n a x).2 G' ∧ (actS H n a x).2.length ≤ 20 := by
        unfold actS
        rw [if_pos hBA, Int.toNat_natCast]
        have ha' : a = 0 ∨ a = 1 ∨ a = 2 := by omega
        rcases ha' with rfl | rfl | rfl
        · obtain ⟨G', s, t⟩ := sp1_sw (d := d - 1 - 1) (N := N) (L := L) (B := B) (x := x) (y := 0) (by omega) hK h0 (by omega) (by omega)
          exact ⟨G', s, t, by have := swS_l (H 1 n) n (H 2 n) x; rw [if_pos rfl]; omega⟩
        · obtain ⟨G', s, t⟩ := sp1_ri (d := d - 1 - 1) (N := N) (L := L) (B := B) (x := x) (y := 0) (by omega) hK h0 (by omega) (by omega)
          exact ⟨G', s, t, by have := riS_l (H 1 n) n (H 2 n) x; rw [if_neg (by omega), if_pos rfl]; omega⟩
        · obtain ⟨G', s, t⟩ := sp1_te (d := d - 1 - 1) (N := N) (L := L) (B := B) (x := x) (y := 0) (by omega) hK h0 (by omega) (by omega)
          exact ⟨G', s, t, by have := teS_l (H 1 n) n (H 2 n) x; rw [if_neg (by omega), if_neg (by omega)]; omega⟩
      obtain ⟨G', s, t, tl⟩ := key
      have s3 : Sp (d - 1) 223 [.ref 62, vI (H 1 n), vI n, vI (H 2 n), vI a, vI x] (hp N L B G) (some (vI (actS H n a x).1)) (hp N L B G') := by
        refine e223 (by omega) ?_
        simp (disch := omega) only [s223_0, s223_1, m223_2, s223_5, s223_6, m223_7, s223_10, s223_11, m223_12, s223_15, s223_16, m223_17, s223_20, s223_21, m223_22, s223_25, s223_27, s223_29, s223_33, Int.toNat_natCast, Int.toNat_natCast, Nat.reduceAdd, Nat.reduceMul, Int.reduceToNat, Int.reduceAdd, Int.reduceLT, Int.reduceLE, Int.reduceEq, Int.reduceNeg, Int.reduceMul, Int.reduceSub, Nat.reduceSub, reduceIte, ite_true, ite_false, and_true, true_and, and_self, ug_ne, ug_k, ug_at, m223_30 s]
      refine ⟨G', ?_, av_of t tl, ?_⟩
      · refine e86 (by omega) ?_
        simp (disch := omega) only [s86_0, s86_1, s86_5, s86_5b, s86_8, s86_9, s86_12, s86_13, s86_14, s86_17, m86_18, s86_21, m86_22, s86_25, s86_26, s86_27, m86_28, s86_31, m86_32, m86_35, s86_38, m86_39, s86_40, s86_41, m86_42, m86_45, s86_48, m86_49, s86_50, s86_51, s86_55, Int.toNat_natCast, Int.toNat_natCast, Nat.reduceAdd, Nat.reduceMul, Int.reduceToNat, Int.reduceAdd, Int.reduceLT, Int.reduceLE, Int.reduceEq, Int.reduceNeg, Int.reduceMul, Int.reduceSub, Nat.reduceSub, reduceIte, ite_true, ite_false, and_true, true_and, and_self, m86_2 h94, hB, hA1, hA2, hA2', v1 n hn6, v2 n hn6, m86_52 s3]
      · intro c c1 c2
        rw [t.2.2.2 c c1 c2, ug_ne c1, ug_ne c1, ug_ne c1, ug_ne c1]
    · refine ⟨ug G 62 3 0, ?_, ?_, fun c c1 c2 => ug_ne c1⟩
      · have e : actS H b a x = (0, []) := by unfold actS; rw [if_neg (fun h => hA h.2)]
        rw [e]
        refine e86 (by omega) ?_
        by_cases c1 : a < 0
        · simp (disch := omega) only [s86_0, s86_1, s86_5, s86_5b, s86_8, s86_9, s86_12, s86_13, s86_14, s86_17, m86_18, s86_21, m86_22, s86_25, s86_26, s86_27, m86_28, s86_31, m86_32, m86_35, s86_38, m86_39, s86_40, s86_41, m86_42, m86_45, s86_48, m86_49, s86_50, s86_51, s86_55, Int.toNat_natCast, Int.toNat_natCast, Nat.reduceAdd, Nat.reduceMul, Int.reduceToNat, Int.reduceAdd, Int.reduceLT, Int.reduceLE, Int.reduceEq, Int.reduceNeg, Int.reduceMul, Int.reduceSub, Nat.reduceSub, reduceIte, ite_true, ite_false, and_true, true_and, and_self, m86_2 h94, hB, c1]
        · have c2 : 2 < a := by omega
          simp (disch := omega) only [s86_0, s86_1, s86_5, s86_5b, s86_8, s86_9, s86_12, s86_13, s86_14, s86_17, m86_18, s86_21, m86_22, s86_25, s86_26, s86_27, m86_28, s86_31, m86_32, m86_35, s86_38, m86_39, s86_40, s86_41, m86_42, m86_45, s86_48, m86_49, s86_50, s86_51, s86_55, Int.toNat_natCast, Int.toNat_natCast, Nat.reduceAdd, Nat.reduceMul, Int.reduceToNat, Int.reduceAdd, Int.reduceLT, Int.reduceLE, Int.reduceEq, Int.reduceNeg, Int.reduceMul, Int.reduceSub, Nat.reduceSub, reduceIte, ite_true, ite_false, and_true, true_and, and_self, m86_2 h94, hB, c1, c2]
      · have e : actS H b a x = (0, []) := by unfold actS; rw [if_neg (fun h => hA h.2)]
        rw [e]
        exact ⟨by rw [ug_at]; rfl, fun k hk => absurd hk (Nat.not_lt_zero k), by simp⟩
  · have e : actS H b a x = (0, []) := by unfold actS; rw [if_neg (fun h => hB h.1)]
    rw [e]
    refine ⟨ug G 62 3 0, ?_, ⟨by rw [ug_at]; rfl, fun k hk => absurd hk (Nat.not_lt_zero k), by simp⟩, fun c c1 c2 => ug_ne c1⟩
    refine e86 (by omega) ?_
    simp (disch := omega) only [s86_0, s86_1, s86_5, s86_5b, s86_8, s86_9, s86_12, s86_13, s86_14, s86_17, m86_18, s86_21, m86_22, s86_25, s86_26, s86_27, m86_28, s86_31, m86_32, m86_35, s86_38, m86_39, s86_40, s86_41, m86_42, m86_45, s86_48, m86_49, s86_50, s86_51, s86_55, Int.toNat_natCast, Int.toNat_natCast, Nat.reduceAdd, Nat.reduceMul, Int.reduceToNat, Int.reduceAdd, Int.reduceLT, Int.reduceLE, Int.reduceEq, Int.reduceNeg, Int.reduceMul, Int.reduceSub, Nat.reduceSub, reduceIte, ite_true, ite_false, and_true, true_and, and_self, m86_2 h94, hB]
