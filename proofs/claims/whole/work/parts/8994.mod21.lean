/-! the model: image, undo -/
theorem lp187_71 {d N L : Nat} {B : q_Bv} {G0 : q_Gi} {Q : Option Value → q_H → Prop} (hQ : ∀ G' : q_Gi, (∀ i, i < 6 → G' 111 i = G0 83 i) → (∀ i, i < 6 → G' 112 i = G0 84 i) → (∀ i, i < 6 → G' 113 i = G0 85 i) → (∀ a, a ≠ 111 → a ≠ 112 → a ≠ 113 → G' a = G0 a) → WP d 187 119 [.ref 82, vI 6] [] (hp N L B G') Q) : ∀ (m k : Nat) (G : q_Gi), k + m = 6 → (∀ i, i < k → G 111 i = G0 83 i) → (∀ i, i < k → G 112 i = G0 84 i) → (∀ i, i < k → G 113 i = G0 85 i) → (∀ a, a ≠ 111 → a ≠ 112 → a ≠ 113 → G a = G0 a) → WP d 187 71 [.ref 82, vI k] [] (hp N L B G) Q := by
  intro m
  induction m with
  | zero =>
    intro k G hk h0 h1 h2 hf
    obtain rfl : k = 6 := by omega
    have := hQ G h0 h1 h2 hf
    simp (disch := omega) only [s187_71, s187_72, s187_74, Int.toNat_natCast, Int.toNat_natCast, Nat.reduceAdd, Nat.reduceMul, Int.reduceToNat, Int.reduceAdd, Int.reduceLT, Int.reduceLE, Int.reduceEq, Int.reduceNeg, Int.reduceMul, Int.reduceSub, Nat.reduceSub, reduceIte, ite_true, ite_false, and_true, true_and, and_self, show ((6 : Nat) : Int) = 6 from rfl]
    exact this
  | succ m ih =>
    intro k G hk h0 h1 h2 hf
    have hlt : (k : Int) < 6 := by omega
    have w0 : G 83 k = G0 83 k := by rw [hf 83 (by omega) (by omega) (by omega)]
    have w1 : G 84 k = G0 84 k := by rw [hf 84 (by omega) (by omega) (by omega)]
    have w2 : G 85 k = G0 85 k := by rw [hf 85 (by omega) (by omega) (by omega)]
    have := ih (k + 1) (ug (ug (ug G 111 k (G0 83 k)) 112 k (G0 84 k)) 113 k (G0 85 k)) (by omega) (fun i hi => by
      try simp (disch := omega) only [ug_ne]
      by_cases c : i = k
      · rw [c, ug_at]
      · rw [ug_k c]; first | exact h0 i (by omega) | (simp (disch := omega) only [ug_ne]; exact h0 i (by omega))) (fun i hi => by
      try simp (disch := omega) only [ug_ne]
      by_cases c : i = k
      · rw [c, ug_at]
      · rw [ug_k c]; first | exact h1 i (by omega) | (simp (disch := omega) only [ug_ne]; exact h1 i (by omega))) (fun i hi => by
      try simp (disch := omega) only [ug_ne]
      by_cases c : i = k
      · rw [c, ug_at]
      · rw [ug_k c]; first | exact h2 i (by omega) | (simp (disch := omega) only [ug_ne]; exact h2 i (by omega))) (fun a x0 x1 x2 => by rw [ug_ne x2, ug_ne x1, ug_ne x0]; exact hf a x0 x1 x2)
    rw [s187_71]
    simp (disch := omega) only [s187_72, s187_74, s187_77, m187_78, s187_81, s187_82, m187_83, s187_86, m187_87, m187_88, s187_89, m187_90, s187_93, s187_94, m187_95, s187_98, m187_99, m187_100, s187_101, m187_102, s187_105, s187_106, m187_107, s187_110, m187_111, m187_112, s187_113, s187_116, Int.toNat_natCast, Int.toNat_natCast, Nat.reduceAdd, Nat.reduceMul, Int.reduceToNat, Int.reduceAdd, Int.reduceLT, Int.reduceLE, Int.reduceEq, Int.reduceNeg, Int.reduceMul, Int.reduceSub, Nat.reduceSub, reduceIte, ite_true, ite_false, and_true, true_and, and_self, hlt, ug_ne, w0, w1, w2]
    exact this
theorem lp187_121 {d N L : Nat} {B : q_Bv} {G0 : q_Gi} {Q : Option Value → q_H → Prop} (hQ : ∀ G' : q_Gi, (∀ i, i < 24 → G' 114 i = G0 86 i) → (∀ a, a ≠ 114 → G' a = G0 a) → WP d 187 145 [.ref 82, vI 24] [] (hp N L B G') Q) : ∀ (m k : Nat) (G : q_Gi), k + m = 24 → (∀ i, i < k → G 114 i = G0 86 i) → (∀ a, a ≠ 114 → G a = G0 a) → WP d 187 121 [.ref 82, vI k] [] (hp N L B G) Q := by
  intro m
  induction m with
  | zero =>
    intro k G hk h0 hf
    obtain rfl : k = 24 := by omega
    have := hQ G h0 hf
    simp (disch := omega) only [s187_121, s187_122, s187_124, Int.toNat_natCast, Int.toNat_natCast, Nat.reduceAdd, Nat.reduceMul, Int.reduceToNat, Int.reduceAdd, Int.reduceLT, Int.reduceLE, Int.reduceEq, Int.reduceNeg, Int.reduceMul, Int.reduceSub, Nat.reduceSub, reduceIte, ite_true, ite_false, and_true, true_and, and_self, show ((24 : Nat) : Int) = 24 from rfl]
    exact this
  | succ m ih =>
    intro k G hk h0 hf
    have hlt : (k : Int) < 24 := by omega
    have w0 : G 86 k = G0 86 k := by rw [hf 86 (by omega)]
    have := ih (k + 1) (ug G 114 k (G0 86 k)) (by omega) (fun i hi => by
      try simp (disch := omega) only [ug_ne]
      by_cases c : i = k
      · rw [c, ug_at]
      · rw [ug_k c]; first | exact h0 i (by omega) | (simp (disch := omega) only [ug_ne]; exact h0 i (by omega))) (fun a x0 => by rw [ug_ne x0]; exact hf a x0)
    rw [s187_121]
    simp (disch := omega) only [s187_122, s187_124, s187_127, m187_128, s187_131, s187_132, m187_133, s187_136, m187_137, m187_138, s187_139, s187_142, Int.toNat_natCast, Int.toNat_natCast, Nat.reduceAdd, Nat.reduceMul, Int.reduceToNat, Int.reduceAdd, Int.reduceLT, Int.reduceLE, Int.reduceEq, Int.reduceNeg, Int.reduceMul, Int.reduceSub, Nat.reduceSub, reduceIte, ite_true, ite_false, and_true, true_and, and_self, hlt, ug_ne, w0]
    exact this
theorem lp187_147 {d N L : Nat} {B : q_Bv} {G0 : q_Gi} {Q : Option Value → q_H → Prop} (hQ : ∀ G' : q_Gi, (∀ i, i < 4 → G' 115 i = G0 87 i) → (∀ a, a ≠ 115 → G' a = G0 a) → WP d 187 170 [.ref 82, vI 4] [] (hp N L B G') Q) : ∀ (m k : Nat) (G : q_Gi), k + m = 4 → (∀ i, i < k → G 115 i = G0 87 i) → (∀ a, a ≠ 115 → G a = G0 a) → WP d 187 147 [.ref 82, vI k] [] (hp N L B G) Q := by
  intro m
  induction m with
  | zero =>
    intro k G hk h0 hf
    obtain rfl : k = 4 := by omega
    have := hQ G h0 hf
    simp (disch := omega) only [s187_147, s187_148, s187_149, Int.toNat_natCast, Int.toNat_natCast, Nat.reduceAdd, Nat.reduceMul, Int.reduceToNat, Int.reduceAdd, Int.reduceLT, Int.reduceLE, Int.reduceEq, Int.reduceNeg, Int.reduceMul, Int.reduceSub, Nat.reduceSub, reduceIte, ite_true, ite_false, and_true, true_and, and_self, show ((4 : Nat) : Int) = 4 from rfl]
    exact this
  | succ m ih =>
    intro k G hk h0 hf
    have hlt : (k : Int) < 4 := by omega
    have w0 : G 87 k = G0 87 k := by rw [hf 87 (by omega)]
    have := ih (k + 1) (ug G 115 k (G0 87 k)) (by omega) (fun i hi => by
      try simp (disch := omega) only [ug_ne]
      by_cases c : i = k
      · rw [c, ug_at]
      · rw [ug_k c]; first | exact h0 i (by omega) | (simp (disch := omega) only [ug_ne]; exact h0 i (by omega))) (fun a x0 => by rw [ug_ne x0]; exact hf a x0)
    rw [s187_147]
    simp (disch := omega) only [s187_148, s187_149, s187_152, m187_153, s187_156, s187_157, m187_158, s187_161, m187_162, m187_163, s187_164, s187_167, Int.toNat_natCast, Int.toNat_natCast, Nat.reduceAdd, Nat.reduceMul, Int.reduceToNat, Int.reduceAdd, Int.reduceLT, Int.reduceLE, Int.reduceEq, Int.reduceNeg, Int.reduceMul, Int.reduceSub, Nat.reduceSub, reduceIte, ite_true, ite_false, and_true, true_and, and_self, hlt, ug_ne, w0]
    exact this
theorem lp187_172 {d N L : Nat} {B : q_Bv} {G0 : q_Gi} {Q : Option Value → q_H → Prop} (hQ : ∀ G' : q_Gi, (∀ i, i < 5 → G' 117 i = G0 104 i) → (∀ i, i < 5 → G' 118 i = G0 105 i) → (∀ i, i < 5 → G' 119 i = G0 106 i) → (∀ a, a ≠ 117 → a ≠ 118 → a ≠ 119 → G' a = G0 a) → WP d 187 219 [.ref 82, vI 5] [] (hp N L B G') Q) : ∀ (m k : Nat) (G : q_Gi), k + m = 5 → (∀ i, i < k → G 117 i = G0 104 i) → (∀ i, i < k → G 118 i = G0 105 i) → (∀ i, i < k → G 119 i = G0 106 i) → (∀ a, a ≠ 117 → a ≠ 118 → a ≠ 119 → G a = G0 a) → WP d 187 172 [.ref 82, vI k] [] (hp N L B G) Q := by
  intro m
  induction m with
  | zero =>
    intro k G hk h0 h1 h2 hf
    obtain rfl : k = 5 := by omega
    have := hQ G h0 h1 h2 hf
    simp (disch := omega) only [s187_172, s187_173, s187_174, Int.toNat_natCast, Int.toNat_natCast, Nat.reduceAdd, Nat.reduceMul, Int.reduceToNat, Int.reduceAdd, Int.reduceLT, Int.reduceLE, Int.reduceEq, Int.reduceNeg, Int.reduceMul, Int.reduceSub, Nat.reduceSub, reduceIte, ite_true, ite_false, and_true, true_and, and_self, show ((5 : Nat) : Int) = 5 from rfl]
    exact this
  | succ m ih =>
    intro k G hk h0 h1 h2 hf
    have hlt : (k : Int) < 5 := by omega
    have w0 : G 104 k = G0 104 k := by rw [hf 104 (by omega) (by omega) (by omega)]
    have w1 : G 105 k = G0 105 k := by rw [hf 105 (by omega) (by omega) (by omega)]
    have w2 : G 106 k = G0 106 k := by rw [hf 106 (by omega) (by omega) (by omega)]
    have := ih (k + 1) (ug (ug (ug G 117 k (G0 104 k)) 118 k (G0 105 k)) 119 k (G0 106 k)) (by omega) (fun i hi => by
      try simp (disch := omega) only [ug_ne]
      by_cases c : i = k
      · rw [c, ug_at]
      · rw [ug_k c]; first | exact h0 i (by omega) | (simp (disch := omega) only [ug_ne]; exact h0 i (by omega))) (fun i hi => by
      try simp (disch := omega) only [ug_ne]
      by_cases c : i = k
      · rw [c, ug_at]
      · rw [ug_k c]; first | exact h1 i (by omega) | (simp (disch := omega) only [ug_ne]; exact h1 i (by omega))) (fun i hi => by
      try simp (disch := omega) only [ug_ne]
      by_cases c : i = k
      · rw [c, ug_at]
      · rw [ug_k c]; first | exact h2 i (by omega) | (simp (disch := omega) only [ug_ne]; exact h2 i (by omega))) (fun a x0 x1 x2 => by rw [ug_ne x2, ug_ne x1, ug_ne x0]; exact hf a x0 x1 x2)
    rw [s187_172]
    simp (disch := omega) only [s187_173, s187_174, s187_177, m187_178, s187_181, s187_182, m187_183, s187_186, m187_187, m187_188, s187_189, m187_190, s187_193, s187_194, m187_195, s187_198, m187_199, m187_200, s187_201, m187_202, s187_205, s187_206, m187_207, s187_210, m187_211, m187_212, s187_213, s187_216, Int.toNat_natCast, Int.toNat_natCast, Nat.reduceAdd, Nat.reduceMul, Int.reduceToNat, Int.reduceAdd, Int.reduceLT, Int.reduceLE, Int.reduceEq, Int.reduceNeg, Int.reduceMul, Int.reduceSub, Nat.reduceSub, reduceIte, ite_true, ite_false, and_true, true_and, and_self, hlt, ug_ne, w0, w1, w2]
    exact this
theorem lp187_221 {d N L : Nat} {B : q_Bv} {G0 : q_Gi} {Q : Option Value → q_H → Prop} (hQ : ∀ G' : q_Gi, (∀ i, i < 10 → G' 116 i = G0 103 i) → (∀ i, i < 10 → G' 120 i = G0 107 i) → (∀ i, i < 10 → G' 121 i = G0 108 i) → (∀ a, a ≠ 116 → a ≠ 120 → a ≠ 121 → G' a = G0 a) → WP d 187 269 [.ref 82, vI 10] [] (hp N L B G') Q) : ∀ (m k : Nat) (G : q_Gi), k + m = 10 → (∀ i, i < k → G 116 i = G0 103 i) → (∀ i, i < k → G 120 i = G0 107 i) → (∀ i, i < k → G 121 i = G0 108 i) → (∀ a, a ≠ 116 → a ≠ 120 → a ≠ 121 → G a = G0 a) → WP d 187 221 [.ref 82, vI k] [] (hp N L B G) Q := by
  intro m
  induction m with
  | zero =>
    intro k G hk h0 h1 h2 hf
    obtain rfl : k = 10 := by omega
    have := hQ G h0 h1 h2 hf
    simp (disch := omega) only [s187_221, s187_222, s187_224, Int.toNat_natCast, Int.toNat_natCast, Nat.reduceAdd, Nat.reduceMul, Int.reduceToNat, Int.reduceAdd, Int.reduceLT, Int.reduceLE, Int.reduceEq, Int.reduceNeg, Int.reduceMul, Int.reduceSub, Nat.reduceSub, reduceIte, ite_true, ite_false, and_true, true_and, and_self, show ((10 : Nat) : Int) = 10 from rfl]
    exact this
  | succ m ih =>
    intro k G hk h0 h1 h2 hf
    have hlt : (k : Int) < 10 := by omega
    have w0 : G 103 k = G0 103 k := by rw [hf 103 (by omega) (by omega) (by omega)]
    have w1 : G 107 k = G0 107 k := by rw [hf 107 (by omega) (by omega) (by omega)]
    have w2 : G 108 k = G0 108 k := by rw [hf 108 (by omega) (by omega) (by omega)]
    have := ih (k + 1) (ug (ug (ug G 116 k (G0 103 k)) 120 k (G0 107 k)) 121 k (G0 108 k)) (by omega) (fun i hi => by
      try simp (disch := omega) only [ug_ne]
      by_cases c : i = k
      · rw [c, ug_at]
      · rw [ug_k c]; first | exact h0 i (by omega) | (simp (disch := omega) only [ug_ne]; exact h0 i (by omega))) (fun i hi => by
      try simp (disch := omega) only [ug_ne]
      by_cases c : i = k
      · rw [c, ug_at]
      · rw [ug_k c]; first | exact h1 i (by omega) | (simp (disch := omega) only [ug_ne]; exact h1 i (by omega))) (fun i hi => by
      try simp (disch := omega) only [ug_ne]
      by_cases c : i = k
      · rw [c, ug_at]
      · rw [ug_k c]; first | exact h2 i (by omega) | (simp (disch := omega) only [ug_ne]; exact h2 i (by omega))) (fun a x0 x1 x2 => by rw [ug_ne x2, ug_ne x1, ug_ne x0]; exact hf a x0 x1 x2)
    rw [s187_221]
    simp (disch := omega) only [s187_222, s187_224, s187_227, m187_228, s187_231, s187_232, m187_233, s187_236, m187_237, m187_238, s187_239, m187_240, s187_243, s187_244, m187_245, s187_248, m187_249, m187_250, s187_251, m187_252, s187_255, s187_256, m187_257, s187_260, m187_261, m187_262, s187_263, s187_266, Int.toNat_natCast, Int.toNat_natCast, Nat.reduceAdd, Nat.reduceMul, Int.reduceToNat, Int.reduceAdd, Int.reduceLT, Int.reduceLE, Int.reduceEq, Int.reduceNeg, Int.reduceMul, Int.reduceSub, Nat.reduceSub, reduceIte, ite_true, ite_false, and_true, true_and, and_self, hlt, ug_ne, w0, w1, w2]
    exact this
theorem lp187_271 {d N L : Nat} {B : q_Bv} {G0 : q_Gi} {Q : Option Value → q_H → Prop} (hQ : ∀ G' : q_Gi, (∀ i, i < 8 → G' 122 i = G0 109 i) → (∀ i, i < 8 → G' 123 i = G0 110 i) → (∀ a, a ≠ 122 → a ≠ 123 → G' a = G0 a) → WP d 187 307 [.ref 82, vI 8] [] (hp N L B G') Q) : ∀ (m k : Nat) (G : q_Gi), k + m = 8 → (∀ i, i < k → G 122 i = G0 109 i) → (∀ i, i < k → G 123 i = G0 110 i) → (∀ a, a ≠ 122 → a ≠ 123 → G a = G0 a) → WP d 187 271 [.ref 82, vI k] [] (hp N L B G) Q := by
  intro m
  induction m with
  | zero =>
    intro k G hk h0 h1 hf
    obtain rfl : k = 8 := by omega
    have := hQ G h0 h1 hf
    simp (disch := omega) only [s187_271, s187_272, s187_274, Int.toNat_natCast, Int.toNat_natCast, Nat.reduceAdd, Nat.reduceMul, Int.reduceToNat, Int.reduceAdd, Int.reduceLT, Int.reduceLE, Int.reduceEq, Int.reduceNeg, Int.reduceMul, Int.reduceSub, Nat.reduceSub, reduceIte, ite_true, ite_false, and_true, true_and, and_self, show ((8 : Nat) : Int) = 8 from rfl]
    exact this
  | succ m ih =>
    intro k G hk h0 h1 hf
    have hlt : (k : Int) < 8 := by omega
    have w0 : G 109 k = G0 109 k := by rw [hf 109 (by omega) (by omega)]
    have w1 : G 110 k = G0 110 k := by rw [hf 110 (by omega) (by omega)]
    have := ih (k + 1) (ug (ug G 122 k (G0 109 k)) 123 k (G0 110 k)) (by omega) (fun i hi => by
      try simp (disch := omega) only [ug_ne]
      by_cases c : i = k
      · rw [c, ug_at]
      · rw [ug_k c]; first | exact h0 i (by omega) | (simp (disch := omega) only [ug_ne]; exact h0 i (by omega))) (fun i hi => by
      try simp (disch := omega) only [ug_ne]
      by_cases c : i = k
      · rw [c, ug_at]
      · rw [ug_k c]; first | exact h1 i (by omega) | (simp (disch := omega) only [ug_ne]; exact h1 i (by omega))) (fun a x0 x1 => by rw [ug_ne x1, ug_ne x0]; exact hf a x0 x1)
    rw [s187_271]
    simp (disch := omega) only [s187_272, s187_274, s187_277, m187_278, s187_281, s187_282, m187_283, s187_286, m187_287, m187_288, s187_289, m187_290, s187_293, s187_294, m187_295, s187_298, m187_299, m187_300, s187_301, s187_304, Int.toNat_natCast, Int.toNat_natCast, Nat.reduceAdd, Nat.reduceMul, Int.reduceToNat, Int.reduceAdd, Int.reduceLT, Int.reduceLE, Int.reduceEq, Int.reduceNeg, Int.reduceMul, Int.reduceSub, Nat.reduceSub, reduceIte, ite_true, ite_false, and_true, true_and, and_self, hlt, ug_ne, w0, w1]
    exact this
theorem lp188_76 {d N L : Nat} {B : q_Bv} {G0 : q_Gi} {Q : Option Value → q_H → Prop} (hQ : ∀ G' : q_Gi, (∀ i, i < 6 → G' 83 i = G0 111 i) → (∀ i, i < 6 → G' 84 i = G0 112 i) → (∀ i, i < 6 → G' 85 i = G0 113 i) → (∀ a, a ≠ 83 → a ≠ 84 → a ≠ 85 → G' a = G0 a) → WP d 188 124 [.ref 82, vI 6] [] (hp N L B G') Q) : ∀ (m k : Nat) (G : q_Gi), k + m = 6 → (∀ i, i < k → G 83 i = G0 111 i) → (∀ i, i < k → G 84 i = G0 112 i) → (∀ i, i < k → G 85 i = G0 113 i) → (∀ a, a ≠ 83 → a ≠ 84 → a ≠ 85 → G a = G0 a) → WP d 188 76 [.ref 82, vI k] [] (hp N L B G) Q := by
  intro m
  induction m with
  | zero =>
    intro k G hk h0 h1 h2 hf
    obtain rfl : k = 6 := by omega
    have := hQ G h0 h1 h2 hf
    simp (disch := omega) only [s188_76, s188_77, s188_79, Int.toNat_natCast, Int.toNat_natCast, Nat.reduceAdd, Nat.reduceMul, Int.reduceToNat, Int.reduceAdd, Int.reduceLT, Int.reduceLE, Int.reduceEq, Int.reduceNeg, Int.reduceMul, Int.reduceSub, Nat.reduceSub, reduceIte, ite_true, ite_false, and_true, true_and, and_self, show ((6 : Nat) : Int) = 6 from rfl]
    exact this
  | succ m ih =>
    intro k G hk h0 h1 h2 hf
    have hlt : (k : Int) < 6 := by omega
    have w0 : G 111 k = G0 111 k := by rw [hf 111 (by omega) (by omega) (by omega)]
    have w1 : G 112 k = G0 112 k := by rw [hf 112 (by omega) (by omega) (by omega)]
    have w2 : G 113 k = G0 113 k := by rw [hf 113 (by omega) (by omega) (by omega)]
    have := ih (k + 1) (ug (ug (ug G 83 k (G0 111 k)) 84 k (G0 112 k)) 85 k (G0 113 k)) (by omega) (fun i hi => by
      try simp (disch := omega) only [ug_ne]
      by_cases c : i = k
      · rw [c, ug_at]
      · rw [ug_k c]; first | exact h0 i (by omega) | (simp (disch := omega) only [ug_ne]; exact h0 i (by omega))) (fun i hi => by
      try simp (disch := omega) only [ug_ne]
      by_cases c : i = k
      · rw [c, ug_at]
      · rw [ug_k c]; first | exact h1 i (by omega) | (simp (disch := omega) only [ug_ne]; exact h1 i (by omega))) (fun i hi => by
      try simp (disch := omega) only [ug_ne]
      by_cases c : i = k
      · rw [c, ug_at]
      · rw [ug_k c]; first | exact h2 i (by omega) | (simp (disch := omega) only [ug_ne]; exact h2 i (by omega))) (fun a x0 x1 x2 => by rw [ug_ne x2, ug_ne x1, ug_ne x0]; exact hf a x0 x1 x2)
    rw [s188_76]
    simp (disch := omega) only [s188_77, s188_79, s188_82, m188_83, s188_86, s188_87, m188_88, s188_91, m188_92, m188_93, s188_94, m188_95, s188_98, s188_99, m188_100, s188_103, m188_104, m188_105, s188_106, m188_107, s188_110, s188_111, m188_112, s188_115, m188_116, m188_117, s188_118, s188_121, Int.toNat_natCast, Int.toNat_natCast, Nat.reduceAdd, Nat.reduceMul, Int.reduceToNat, Int.reduceAdd, Int.reduceLT, Int.reduceLE, Int.reduceEq, Int.reduceNeg, Int.reduceMul, Int.reduceSub, Nat.reduceSub, reduceIte, ite_true, ite_false, and_true, true_and, and_self, hlt, ug_ne, w0, w1, w2]
    exact this
theorem lp188_126 {d N L : Nat} {B : q_Bv} {G0 : q_Gi} {Q : Option Value → q_H → Prop} (hQ : ∀ G' : q_Gi, (∀ i, i < 24 → G' 86 i = G0 114 i) → (∀ a, a ≠ 86 → G' a = G0 a) → WP d 188 150 [.ref 82, vI 24] [] (hp N L B G') Q) : ∀ (m k : Nat) (G : q_Gi), k + m = 24 → (∀ i, i < k → G 86 i = G0 114 i) → (∀ a, a ≠ 86 → G a = G0 a) → WP d 188 126 [.ref 82, vI k] [] (hp N L B G) Q := by
  intro m
  induction m with
  | zero =>
    intro k G hk h0 hf
    obtain rfl : k = 24 := by omega
    have := hQ G h0 hf
    simp (disch := omega) only [s188_126, s188_127, s188_129, Int.toNat_natCast, Int.toNat_natCast, Nat.reduceAdd, Nat.reduceMul, Int.reduceToNat, Int.reduceAdd, Int.reduceLT, Int.reduceLE, Int.reduceEq, Int.reduceNeg, Int.reduceMul, Int.reduceSub, Nat.reduceSub, reduceIte, ite_true, ite_false, and_true, true_and, and_self, show ((24 : Nat) : Int) = 24 from rfl]
    exact this
  | succ m ih =>
    intro k G hk h0 hf
    have hlt : (k : Int) < 24 := by omega
    have w0 : G 114 k = G0 114 k := by rw [hf 114 (by omega)]
    have := ih (k + 1) (ug G 86 k (G0 114 k)) (by omega) (fun i hi => by
      try simp (disch := omega) only [ug_ne]
      by_cases c : i = k
      · rw [c, ug_at]
      · rw [ug_k c]; first | exact h0 i (by omega) | (simp (disch := omega) only [ug_ne]; exact h0 i (by omega))) (fun a x0 => by rw [ug_ne x0]; exact hf a x0)
    rw [s188_126]
    simp (disch := omega) only [s188_127, s188_129, s188_132, m188_133, s188_136, s188_137, m188_138, s188_141, m188_142, m188_143, s188_144, s188_147, Int.toNat_natCast, Int.toNat_natCast, Nat.reduceAdd, Nat.reduceMul, Int.reduceToNat, Int.reduceAdd, Int.reduceLT, Int.reduceLE, Int.reduceEq, Int.reduceNeg, Int.reduceMul, Int.reduceSub, Nat.reduceSub, reduceIte, ite_true, ite_false, and_true, true_and, and_self, hlt, ug_ne, w0]
    exact this
theorem lp188_152 {d N L : Nat} {B : q_Bv} {G0 : q_Gi} {Q : Option Value → q_H → Prop} (hQ : ∀ G' : q_Gi, (∀ i, i < 4 → G' 87 i = G0 115 i) → (∀ a, a ≠ 87 → G' a = G0 a) → WP d 188 175 [.ref 82, vI 4] [] (hp N L B G') Q) : ∀ (m k : Nat) (G : q_Gi), k + m = 4 → (∀ i, i < k → G 87 i = G0 115 i) → (∀ a, a ≠ 87 → G a = G0 a) → WP d 188 152 [.ref 82, vI k] [] (hp N L B G) Q := by
  intro m
  induction m with
  | zero =>
    intro k G hk h0 hf
    obtain rfl : k = 4 := by omega
    have := hQ G h0 hf
    simp (disch := omega) only [s188_152, s188_153, s188_154, Int.toNat_natCast, Int.toNat_natCast, Nat.reduceAdd, Nat.reduceMul, Int.reduceToNat, Int.reduceAdd, Int.reduceLT, Int.reduceLE, Int.reduceEq, Int.reduceNeg, Int.reduceMul, Int.reduceSub, Nat.reduceSub, reduceIte, ite_true, ite_false, and_true, true_and, and_self, show ((4 : Nat) : Int) = 4 from rfl]
    exact this
  | succ m ih =>
    intro k G hk h0 hf
    have hlt : (k : Int) < 4 := by omega
    have w0 : G 115 k = G0 115 k := by rw [hf 115 (by omega)]
    have := ih (k + 1) (ug G 87 k (G0 115 k)) (by omega) (fun i hi => by
      try simp (disch := omega) only [ug_ne]
      by_cases c : i = k
      · rw [c, ug_at]
      · rw [ug_k c]; first | exact h0 i (by omega) | (simp (disch := omega) only [ug_ne]; exact h0 i (by omega))) (fun a x0 => by rw [ug_ne x0]; exact hf a x0)
    rw [s188_152]
    simp (disch := omega) only [s188_153, s188_154, s188_157, m188_158, s188_161, s188_162, m188_163, s188_166, m188_167, m188_168, s188_169, s188_172, Int.toNat_natCast, Int.toNat_natCast, Nat.reduceAdd, Nat.reduceMul, Int.reduceToNat, Int.reduceAdd, Int.reduceLT, Int.reduceLE, Int.reduceEq, Int.reduceNeg, Int.reduceMul, Int.reduceSub, Nat.reduceSub, reduceIte, ite_true, ite_false, and_true, true_and, and_self, hlt, ug_ne, w0]
    exact this
theorem lp188_177 {d N L : Nat} {B : q_Bv} {G0 : q_Gi} {Q : Option Value → q_H → Prop} (hQ : ∀ G' : q_Gi, (∀ i, i < 5 → G' 104 i = G0 117 i) → (∀ i, i < 5 → G' 105 i = G0 118 i) → (∀ i, i < 5 → G' 106 i = G0 119 i) → (∀ a, a ≠ 104 → a ≠ 105 → a ≠ 106 → G' a = G0 a) → WP d 188 224 [.ref 82, vI 5] [] (hp N L B G') Q) : ∀ (m k : Nat) (G : q_Gi), k + m = 5 → (∀ i, i < k → G 104 i = G0 117 i) → (∀ i, i < k → G 105 i = G0 118 i) → (∀ i, i < k → G 106 i = G0 119 i) → (∀ a, a ≠ 104 → a ≠ 105 → a ≠ 106 → G a = G0 a) → WP d 188 177 [.ref 82, vI k] [] (hp N L B G) Q := by
  intro m
  induction m with
  | zero =>
    intro k G hk h0 h1 h2 hf
    obtain rfl : k = 5 := by omega
    have := hQ G h0 h1 h2 hf
    simp (disch := omega) only [s188_177, s188_178, s188_179, Int.toNat_natCast, Int.toNat_natCast, Nat.reduceAdd, Nat.reduceMul, Int.reduceToNat, Int.reduceAdd, Int.reduceLT, Int.reduceLE, Int.reduceEq, Int.reduceNeg, Int.reduceMul, Int.reduceSub, Nat.reduceSub, reduceIte, ite_true, ite_false, and_true, true_and, and_self, show ((5 : Nat) : Int) = 5 from rfl]
    exact this
  | succ m ih =>
    intro k G hk h0 h1 h2 hf
    have hlt : (k : Int) < 5 := by omega
    have w0 : G 117 k = G0 117 k := by rw [hf 117 (by omega) (by omega) (by omega)]
    have w1 : G 118 k = G0 118 k := by rw [hf 118 (by omega) (by omega) (by omega)]
    have w2 : G 119 k = G0 119 k := by rw [hf 119 (by omega) (by omega) (by omega)]
    have := ih (k + 1) (ug (ug (ug G 104 k (G0 117 k)) 105 k (G0 118 k)) 106 k (G0 119 k)) (by omega) (fun i hi => by
      try simp (disch := omega) only [ug_ne]
      by_cases c : i = k
      · rw [c, ug_at]
      · rw [ug_k c]; first | exact h0 i (by omega) | (simp (disch := omega) only [ug_ne]; exact h0 i (by omega))) (fun i hi => by
      try simp (disch := omega) only [ug_ne]
      by_cases c : i = k
      · rw [c, ug_at]
      · rw [ug_k c]; first | exact h1 i (by omega) | (simp (disch := omega) only [ug_ne]; exact h1 i (by omega))) (fun i hi => by
      try simp (disch := omega) only [ug_ne]
      by_cases c : i = k
      · rw [c, ug_at]
      · rw [ug_k c]; first | exact h2 i (by omega) | (simp (disch := omega) only [ug_ne]; exact h2 i (by omega))) (fun a x0 x1 x2 => by rw [ug_ne x2, ug_ne x1, ug_ne x0]; exact hf a x0 x1 x2)
    rw [s188_177]
    simp (disch := omega) only [s188_178, s188_179, s188_182, m188_183, s188_186, s188_187, m188_188, s188_191, m188_192, m188_193, s188_194, m188_195, s188_198, s188_199, m188_200, s188_203, m188_204, m188_205, s188_206, m188_207, s188_210, s188_211, m188_212, s188_215, m188_216, m188_217, s188_218, s188_221, Int.toNat_natCast, Int.toNat_natCast, Nat.reduceAdd, Nat.reduceMul, Int.reduceToNat, Int.reduceAdd, Int.reduceLT, Int.reduceLE, Int.reduceEq, Int.reduceNeg, Int.reduceMul, Int.reduceSub, Nat.reduceSub, reduceIte, ite_true, ite_false, and_true, true_and, and_self, hlt, ug_ne, w0, w1, w2]
    exact this
theorem lp188_226 {d N L : Nat} {B : q_Bv} {G0 : q_Gi} {Q : Option Value → q_H → Prop} (hQ : ∀ G' : q_Gi, (∀ i, i < 10 → G' 103 i = G0 116 i) → (∀ i, i < 10 → G' 107 i = G0 120 i) → (∀ i, i < 10 → G' 108 i = G0 121 i) → (∀ a, a ≠ 103 → a ≠ 107 → a ≠ 108 → G' a = G0 a) → WP d 188 274 [.ref 82, vI 10] [] (hp N L B G') Q) : ∀ (m k : Nat) (G : q_Gi), k + m = 10 → (∀ i, i < k → G 103 i = G0 116 i) → (∀ i, i < k → G 107 i = G0 120 i) → (∀ i, i < k → G 108 i = G0 121 i) → (∀ a, a ≠ 103 → a ≠ 107 → a ≠ 108 → G a = G0 a) → WP d 188 226 [.ref 82, vI k] [] (hp N L B G) Q := by
  intro m
  induction m with
  | zero =>
    intro k G hk h0 h1 h2 hf
    obtain rfl : k = 10 := by omega
    have := hQ G h0 h1 h2 hf
    simp (disch := omega) only [s188_226, s188_227, s188_229, Int.toNat_natCast, Int.toNat_natCast, Nat.reduceAdd, Nat.reduceMul, Int.reduceToNat, Int.reduceAdd, Int.reduceLT, Int.reduceLE, Int.reduceEq, Int.reduceNeg, Int.reduceMul, Int.reduceSub, Nat.reduceSub, reduceIte, ite_true, ite_false, and_true, true_and, and_self, show ((10 : Nat) : Int) = 10 from rfl]
    exact this
  | succ m ih =>
    intro k G hk h0 h1 h2 hf
    have hlt : (k : Int) < 10 := by omega
    have w0 : G 116 k = G0 116 k := by rw [hf 116 (by omega) (by omega) (by omega)]
    have w1 : G 120 k = G0 120 k := by rw [hf 120 (by omega) (by omega) (by omega)]
    have w2 : G 121 k = G0 121 k := by rw [hf 121 (by omega) (by omega) (by omega)]
    have := ih (k + 1) (ug (ug (ug G 103 k (G0 116 k)) 107 k (G0 120 k)) 108 k (G0 121 k)) (by omega) (fun i hi => by
      try simp (disch := omega) only [ug_ne]
      by_cases c : i = k
      · rw [c, ug_at]
      · rw [ug_k c]; first | exact h0 i (by omega) | (simp (disch := omega) only [ug_ne]; exact h0 i (by omega))) (fun i hi => by
      try simp (disch := omega) only [ug_ne]
      by_cases c : i = k
      · rw [c, ug_at]
      · rw [ug_k c]; first | exact h1 i (by omega) | (simp (disch := omega) only [ug_ne]; exact h1 i (by omega))) (fun i hi => by
      try simp (disch := omega) only [ug_ne]
      by_cases c : i = k
      · rw [c, ug_at]
      · rw [ug_k c]; first | exact h2 i (by omega) | (simp (disch := omega) only [ug_ne]; exact h2 i (by omega))) (fun a x0 x1 x2 => by rw [ug_ne x2, ug_ne x1, ug_ne x0]; exact hf a x0 x1 x2)
    rw [s188_226]
    simp (disch := omega) only [s188_227, s188_229, s188_232, m188_233, s188_236, s188_237, m188_238, s188_241, m188_242, m188_243, s188_244, m188_245, s188_248, s188_249, m188_250, s188_253, m188_254, m188_255, s188_256, m188_257, s188_260, s188_261, m188_262, s188_265, m188_266, m188_267, s188_268, s188_271, Int.toNat_natCast, Int.toNat_natCast, Nat.reduceAdd, Nat.reduceMul, Int.reduceToNat, Int.reduceAdd, Int.reduceLT, Int.reduceLE, Int.reduceEq, Int.reduceNeg, Int.reduceMul, Int.reduceSub, Nat.reduceSub, reduceIte, ite_true, ite_false, and_true, true_and, and_self, hlt, ug_ne, w0, w1, w2]
    exact this
theorem lp188_276 {d N L : Nat} {B : q_Bv} {G0 : q_Gi} {Q : Option Value → q_H → Prop} (hQ : ∀ G' : q_Gi, (∀ i, i < 8 → G' 109 i = G0 122 i) → (∀ i, i < 8 → G' 110 i = G0 123 i) → (∀ a, a ≠ 109 → a ≠ 110 → G' a = G0 a) → WP d 188 312 [.ref 82, vI 8] [] (hp N L B G') Q) : ∀ (m k : Nat) (G : q_Gi), k + m = 8 → (∀ i, i < k → G 109 i = G0 122 i) → (∀ i, i < k → G 110 i = G0 123 i) → (∀ a, a ≠ 109 → a ≠ 110 → G a = G0 a) → WP d 188 276 [.ref 82, vI k] [] (hp N L B G) Q := by
  intro m
  induction m with
  | zero =>
    intro k G hk h0 h1 hf
    obtain rfl : k = 8 := by omega
    have := hQ G h0 h1 hf
    simp (disch := omega) only [s188_276, s188_277, s188_279, Int.toNat_natCast, Int.toNat_natCast, Nat.reduceAdd, Nat.reduceMul, Int.reduceToNat, Int.reduceAdd, Int.reduceLT, Int.reduceLE, Int.reduceEq, Int.reduceNeg, Int.reduceMul, Int.reduceSub, Nat.reduceSub, reduceIte, ite_true, ite_false, and_true, true_and, and_self, show ((8 : Nat) : Int) = 8 from rfl]
    exact this
  | succ m ih =>
    intro k G hk h0 h1 hf
    have hlt : (k : Int) < 8 := by omega
    have w0 : G 122 k = G0 122 k := by rw [hf 122 (by omega) (by omega)]
    have w1 : G 123 k = G0 123 k := by rw [hf 123 (by omega) (by omega)]
    have := ih (k + 1) (ug (ug G 109 k (G0 122 k)) 110 k (G0 123 k)) (by omega) (fun i hi => by
      try simp (disch := omega) only [ug_ne]
      by_cases c : i = k
      · rw [c, ug_at]
      · rw [ug_k c]; first | exact h0 i (by omega) | (simp (disch := omega) only [ug_ne]; exact h0 i (by omega))) (fun i hi => by
      try simp (disch := omega) only [ug_ne]
      by_cases c : i = k
      · rw [c, ug_at]
      · rw [ug_k c]; first | exact h1 i (by omega) | (simp (disch := omega) only [ug_ne]; exact h1 i (by omega))) (fun a x0 x1 => by rw [ug_ne x1, ug_ne x0]; exact hf a x0 x1)
    rw [s188_276]
    simp (disch := omega) only [s188_277, s188_279, s188_282, m188_283, s188_286, s188_287, m188_288, s188_291, m188_292, m188_293, s188_294, m188_295, s188_298, s188_299, m188_300, s188_303, m188_304, m188_305, s188_306, s188_309, Int.toNat_natCast, Int.toNat_natCast, Nat.reduceAdd, Nat.reduceMul, Int.reduceToNat, Int.reduceAdd, Int.reduceLT, Int.reduceLE, Int.reduceEq, Int.reduceNeg, Int.reduceMul, Int.reduceSub, Nat.reduceSub, reduceIte, ite_true, ite_false, and_true, true_and, and_self, hlt, ug_ne, w0, w1]
    exact this
/-- the model's image -/
def miv (G : q_Gi) (the : Int) (H P : q_Gi) : Prop := (G 82 47 = the ∧ G 82 48 = H 0 0 ∧ G 82 49 = H 0 1 ∧ G 82 50 = H 0 2) ∧ ((∀ k, k < 6 → G 111 k = H 1 k) ∧ (∀ k, k < 6 → G 112 k = H 2 k) ∧ (∀ k, k < 6 → G 113 k = H 3 k) ∧ (∀ k, k < 24 → G 114 k = H 4 k) ∧ (∀ k, k < 4 → G 115 k = H 5 k)) ∧ (G 82 51 = P 0 0 ∧ ∀ k, k < 10 → G 116 k = P 1 k) ∧ (G 82 52 = P 0 1 ∧ (∀ k, k < 5 → G 117 k = P 4 k) ∧ (∀ k, k < 5 → G 118 k = P 5 k) ∧ (∀ k, k < 5 → G 119 k = P 6 k)) ∧ (G 82 53 = P 0 2 ∧ (∀ k, k < 10 → G 120 k = P 7 k) ∧ (∀ k, k < 10 → G 121 k = if P 7 k = 6 then 0 else P 8 k)) ∧ (G 82 54 = P 0 3 ∧ (∀ k, k < 8 → G 122 k = P 10 k) ∧ (∀ k, k < 8 → G 123 k = P 11 k))
theorem miv_f {G G' : q_Gi} {the : Int} {H P : q_Gi} (h : miv G the H P) (e : ∀ a, 111 ≤ a → a ≤ 123 → G' a = G a) (e2 : ∀ k, 47 ≤ k → k ≤ 54 → G' 82 k = G 82 k) : miv G' the H P := by
  unfold miv at h ⊢
  rw [e2 47 (by omega) (by omega), e2 48 (by omega) (by omega), e2 49 (by omega) (by omega), e2 50 (by omega) (by omega), e2 51 (by omega) (by omega), e2 52 (by omega) (by omega), e2 53 (by omega) (by omega), e2 54 (by omega) (by omega), e 111 (by omega) (by omega), e 112 (by omega) (by omega), e 113 (by omega) (by omega), e 114 (by omega) (by omega), e 115 (by omega) (by omega), e 116 (by omega) (by omega), e 117 (by omega) (by omega), e 118 (by omega) (by omega), e 119 (by omega) (by omega), e 120 (by omega) (by omega), e 121 (by omega) (by omega), e 122 (by omega) (by omega), e 123 (by omega) (by omega)]
  exact h
theorem sp187 {d N L : Nat} {the : Int} {B : q_Bv} {G H P : q_Gi} (hd : 1 ≤ d) (hv : mv G H) (hP : mpv G P) (h9 : G 82 9 = the) : ∃ G', Sp d 187 [.ref 82] (hp N L B G) (some (vI (H 0 0))) (hp N L B G') ∧ miv G' the H P ∧ G' 82 46 = 1 ∧ (∀ a, a ≠ 82 → (a < 111 ∨ 123 < a) → G' a = G a) ∧ ∀ k, (k < 46 ∨ 54 < k) → G' 82 k = G 82 k := by
  obtain ⟨v0, v1, v2, vk, vv, vf, vr, vs⟩ := hv
  obtain ⟨⟨p0, p1⟩, ⟨q0, q1, q2, q3⟩, ⟨r0, r1, r2⟩, ⟨t0, t1, t2⟩⟩ := hP
  obtain ⟨r, X', hS, G', hr, hX, hq⟩ := E187 (d := d) (X := hp N L B G) (Q := fun r X => ∃ G', r = some (vI (H 0 0)) ∧ X = hp N L B G' ∧ miv G' the H P ∧ G' 82 46 = 1 ∧ (∀ a, a ≠ 82 → (a < 111 ∨ 123 < a) → G' a = G a) ∧ ∀ k, (k < 46 ∨ 54 < k) → G' 82 k = G 82 k) (by omega) (by
    simp (disch := omega) only [s187_0, s187_1, m187_2, s187_5, s187_6, m187_7, m187_10, s187_13, s187_14, m187_15, m187_18, s187_21, s187_22, m187_23, m187_26, s187_29, s187_30, m187_31, m187_34, s187_37, s187_38, m187_39, m187_42, s187_45, s187_46, m187_47, m187_50, s187_53, s187_54, m187_55, m187_58, s187_61, s187_62, m187_63, m187_66, s187_69, s187_70, Int.toNat_natCast, Int.toNat_natCast, Nat.reduceAdd, Nat.reduceMul, Int.reduceToNat, Int.reduceAdd, Int.reduceLT, Int.reduceLE, Int.reduceEq, Int.reduceNeg, Int.reduceMul, Int.reduceSub, Nat.reduceSub, reduceIte, ite_true, ite_false, and_true, true_and, and_self, ug_k, h9, v0, v1, v2, p0, q0, r0, t0]
    refine lp187_71 (fun G1 a1 a2 a3 f1 => ?_) 6 0 _ rfl (fun i hi => absurd hi (Nat.not_lt_zero i)) (fun i hi => absurd hi (Nat.not_lt_zero i)) (fun i hi => absurd hi (Nat.not_lt_zero i)) (fun _ _ _ _ => rfl)
    simp (disch := omega) only [s187_119, s187_120, Int.toNat_natCast, Int.toNat_natCast, Nat.reduceAdd, Nat.reduceMul, Int.reduceToNat, Int.reduceAdd, Int.reduceLT, Int.reduceLE, Int.reduceEq, Int.reduceNeg, Int.reduceMul, Int.reduceSub, Nat.reduceSub, reduceIte, ite_true, ite_false, and_true, true_and, and_self]
    refine lp187_121 (fun G2 b1 f2 => ?_) 24 0 G1 rfl (fun i hi => absurd hi (Nat.not_lt_zero i)) (fun _ _ => rfl)
    simp (disch := omega) only [s187_145, s187_146, Int.toNat_natCast, Int.toNat_natCast, Nat.reduceAdd, Nat.reduceMul, Int.reduceToNat, Int.reduceAdd, Int.reduceLT, Int.reduceLE, Int.reduceEq, Int.reduceNeg, Int.reduceMul, Int.reduceSub, Nat.reduceSub, reduceIte, ite_true, ite_false, and_true, true_and, and_self]
    refine lp187_147 (fun G3 c1 f3 => ?_) 4 0 G2 rfl (fun i hi => absurd hi (Nat.not_lt_zero i)) (fun _ _ => rfl)
    simp (disch := omega) only [s187_170, s187_171, Int.toNat_natCast, Int.toNat_natCast, Nat.reduceAdd, Nat.reduceMul, Int.reduceToNat, Int.reduceAdd, Int.reduceLT, Int.reduceLE, Int.reduceEq, Int.reduceNeg, Int.reduceMul, Int.reduceSub, Nat.reduceSub, reduceIte, ite_true, ite_false, and_true, true_and, and_self]
    refine lp187_172 (fun G4 d1 d2 d3 f4 => ?_) 5 0 G3 rfl (fun i hi => absurd hi (Nat.not_lt_zero i)) (fun i hi => absurd hi (Nat.not_lt_zero i)) (fun i hi => absurd hi (Nat.not_lt_zero i)) (fun _ _ _ _ => rfl)
    simp (disch := omega) only [s187_219, s187_220, Int.toNat_natCast, Int.toNat_natCast, Nat.reduceAdd, Nat.reduceMul, Int.reduceToNat, Int.reduceAdd, Int.reduceLT, Int.reduceLE, Int.reduceEq, Int.reduceNeg, Int.reduceMul, Int.reduceSub, Nat.reduceSub, reduceIte, ite_true, ite_false, and_true, true_and, and_self]
    refine lp187_221 (fun G5 g1 g2 g3 f5 => ?_) 10 0 G4 rfl (fun i hi => absurd hi (Nat.not_lt_zero i)) (fun i hi => absurd hi (Nat.not_lt_zero i)) (fun i hi => absurd hi (Nat.not_lt_zero i)) (fun _ _ _ _ => rfl)
    simp (disch := omega) only [s187_269, s187_270, Int.toNat_natCast, Int.toNat_natCast, Nat.reduceAdd, Nat.reduceMul, Int.reduceToNat, Int.reduceAdd, Int.reduceLT, Int.reduceLE, Int.reduceEq, Int.reduceNeg, Int.reduceMul, Int.reduceSub, Nat.reduceSub, reduceIte, ite_true, ite_false, and_true, true_and, and_self]
    refine lp187_271 (fun G6 i1 i2 f6 => ?_) 8 0 G5 rfl (fun i hi => absurd hi (Nat.not_lt_zero i)) (fun i hi => absurd hi (Nat.not_lt_zero i)) (fun _ _ _ => rfl)
    have e82 : ∀ k, G6 82 k = G1 82 k := fun k => by rw [f6 82 (by omega) (by omega), f5 82 (by omega) (by omega) (by omega), f4 82 (by omega) (by omega) (by omega), f3 82 (by omega), f2 82 (by omega)]
    have x82 : G6 82 0 = H 0 0 := by
      rw [e82, f1 82 (by omega) (by omega) (by omega)]
      simp (disch := omega) only [ug_k, v0]
    simp (disch := omega) only [s187_307, m187_308, s187_311, Int.toNat_natCast, Int.toNat_natCast, Nat.reduceAdd, Nat.reduceMul, Int.reduceToNat, Int.reduceAdd, Int.reduceLT, Int.reduceLE, Int.reduceEq, Int.reduceNeg, Int.reduceMul, Int.reduceSub, Nat.reduceSub, reduceIte, ite_true, ite_false, and_true, true_and, and_self, x82]
    refine ⟨G6, rfl, ⟨⟨?_, ?_, ?_, ?_⟩, ⟨?_, ?_, ?_, ?_, ?_⟩, ⟨?_, ?_⟩, ⟨?_, ?_, ?_, ?_⟩, ⟨?_, ?_, ?_⟩, ⟨?_, ?_, ?_⟩⟩, ?_, ?_, ?_⟩
    · rw [e82, f1 82 (by omega) (by omega) (by omega)]; simp (disch := omega) only [ug_k, ug_at]
    · rw [e82, f1 82 (by omega) (by omega) (by omega)]; simp (disch := omega) only [ug_k, ug_at]
    · rw [e82, f1 82 (by omega) (by omega) (by omega)]; simp (disch := omega) only [ug_k, ug_at]
    · rw [e82, f1 82 (by omega) (by omega) (by omega)]; simp (disch := omega) only [ug_k, ug_at]
    · intro k hk; rw [f6 111 (by omega) (by omega), f5 111 (by omega) (by omega) (by omega), f4 111 (by omega) (by omega) (by omega), f3 111 (by omega), f2 111 (by omega), a1 k hk]; simp (disch := omega) only [ug_ne]; exact vk k hk
    · intro k hk; rw [f6 112 (by omega) (by omega), f5 112 (by omega) (by omega) (by omega), f4 112 (by omega) (by omega) (by omega), f3 112 (by omega), f2 112 (by omega), a2 k hk]; simp (disch := omega) only [ug_ne]; exact vv k hk
    · intro k hk; rw [f6 113 (by omega) (by omega), f5 113 (by omega) (by omega) (by omega), f4 113 (by omega) (by omega) (by omega), f3 113 (by omega), f2 113 (by omega), a3 k hk]; simp (disch := omega) only [ug_ne]; exact vf k hk
    · intro k hk; rw [f6 114 (by omega) (by omega), f5 114 (by omega) (by omega) (by omega), f4 114 (by omega) (by omega) (by omega), f3 114 (by omega), b1 k hk, f1 86 (by omega) (by omega) (by omega)]; simp (disch := omega) only [ug_ne]; exact vr k hk
    · intro k hk; rw [f6 115 (by omega) (by omega), f5 115 (by omega) (by omega) (by omega), f4 115 (by omega) (by omega) (by omega), c1 k hk, f2 87 (by omega), f1 87 (by omega) (by omega) (by omega)]; simp (disch := omega) only [ug_ne]; exact vs k hk
    · rw [e82, f1 82 (by omega) (by omega) (by omega)]; simp (disch := omega) only [ug_k, ug_at]
    · intro k hk; rw [f6 116 (by omega) (by omega), g1 k hk, f4 103 (by omega) (by omega) (by omega), f3 103 (by omega), f2 103 (by omega), f1 103 (by omega) (by omega) (by omega)]; simp (disch := omega) only [ug_ne]; exact p1 k hk
    · rw [e82, f1 82 (by omega) (by omega) (by omega)]; simp (disch := omega) only [ug_k, ug_at]
    · intro k hk; rw [f6 117 (by omega) (by omega), f5 117 (by omega) (by omega) (by omega), d1 k hk, f3 104 (by omega), f2 104 (by omega), f1 104 (by omega) (by omega) (by omega)]; simp (disch := omega) only [ug_ne]; exact q1 k hk
    · intro k hk; rw [f6 118 (by omega) (by omega), f5 118 (by omega) (by omega) (by omega), d2 k hk, f3 105 (by omega), f2 105 (by omega), f1 105 (by omega) (by omega) (by omega)]; simp (disch := omega) only [ug_ne]; exact q2 k hk
    · intro k hk; rw [f6 119 (by omega) (by omega), f5 119 (by omega) (by omega) (by omega), d3 k hk, f3 106 (by omega), f2 106 (by omega), f1 106 (by omega) (by omega) (by omega)]; simp (disch := omega) only [ug_ne]; exact q3 k hk
    · rw [e82, f1 82 (by omega) (by omega) (by omega)]; simp (disch := omega) only [ug_k, ug_at]
    · intro k hk; rw [f6 120 (by omega) (by omega), g2 k hk, f4 107 (by omega) (by omega) (by omega), f3 107 (by omega), f2 107 (by omega), f1 107 (by omega) (by omega) (by omega)]; simp (disch := omega) only [ug_ne]; exact r1 k hk
    · intro k hk; rw [f6 121 (by omega) (by omega), g3 k hk, f4 108 (by omega) (by omega) (by omega), f3 108 (by omega), f2 108 (by omega), f1 108 (by omega) (by omega) (by omega)]; simp (disch := omega) only [ug_ne]; exact r2 k hk
    · rw [e82, f1 82 (by omega) (by omega) (by omega)]; simp (disch := omega) only [ug_k, ug_at]
    · intro k hk; rw [i1 k hk, f5 109 (by omega) (by omega) (by omega), f4 109 (by omega) (by omega) (by omega), f3 109 (by omega), f2 109 (by omega), f1 109 (by omega) (by omega) (by omega)]; simp (disch := omega) only [ug_ne]; exact t1 k hk
    · intro k hk; rw [i2 k hk, f5 110 (by omega) (by omega) (by omega), f4 110 (by omega) (by omega) (by omega), f3 110 (by omega), f2 110 (by omega), f1 110 (by omega) (by omega) (by omega)]; simp (disch := omega) only [ug_ne]; exact t2 k hk
    · rw [e82, f1 82 (by omega) (by omega) (by omega)]; simp (disch := omega) only [ug_k, ug_at]
    · intro a x y; rw [f6 a (by omega) (by omega), f5 a (by omega) (by omega) (by omega), f4 a (by omega) (by omega) (by omega), f3 a (by omega), f2 a (by omega), f1 a (by omega) (by omega) (by omega)]; simp (disch := omega) only [ug_ne]
    · intro k x; rw [e82, f1 82 (by omega) (by omega) (by omega)]; simp (disch := omega) only [ug_k])
  exact ⟨G', by rw [hr, hX] at hS; exact hS, hq⟩
theorem sp188 {d N L : Nat} {s the : Int} {B : q_Bv} {G I J : q_Gi} (hd : 1 ≤ d) (hs : G 82 46 = s) (hs1 : s = 0 ∨ s = 1) (hI : s = 1 → miv G the I J) : ∃ G', Sp d 188 [.ref 82] (hp N L B G) (some (vI (if s = 0 then -3 else I 0 0))) (hp N L B G') ∧ (s = 0 → G' = G) ∧ (s = 1 → mv G' I ∧ mpv G' J ∧ G' 82 9 = the) ∧ (∀ a, (a < 82 ∨ 87 < a) → (a < 103 ∨ 110 < a) → G' a = G a) ∧ ∀ k, (2 < k ∧ k < 9 ∨ 9 < k ∧ k < 34 ∨ 41 < k) → G' 82 k = G 82 k := by
  rcases hs1 with rfl | rfl
  · rw [if_pos rfl]
    refine ⟨G, ?_, fun _ => rfl, fun e => absurd e (by decide), fun _ _ _ => rfl, fun _ _ => rfl⟩
    refine e188 (by omega) ?_
    simp (disch := omega) only [s188_0, m188_1, s188_4, s188_4b, s188_7, s188_9, Int.toNat_natCast, Int.toNat_natCast, Nat.reduceAdd, Nat.reduceMul, Int.reduceToNat, Int.reduceAdd, Int.reduceLT, Int.reduceLE, Int.reduceEq, Int.reduceNeg, Int.reduceMul, Int.reduceSub, Nat.reduceSub, reduceIte, ite_true, ite_false, and_true, true_and, and_self, hs]
  rw [if_neg (by decide)]
  obtain ⟨⟨v9, v0, v1, v2⟩, ⟨vk, vv, vf, vr, vs⟩, ⟨p0, p1⟩, ⟨q0, q1, q2, q3⟩, ⟨r0, r1, r2⟩, ⟨t0, t1, t2⟩⟩ := hI rfl
  obtain ⟨r, X', hS, G', hr, hX, hq⟩ := E188 (d := d) (X := hp N L B G) (Q := fun r X => ∃ G', r = some (vI (I 0 0)) ∧ X = hp N L B G' ∧ (mv G' I ∧ mpv G' J ∧ G' 82 9 = the) ∧ (∀ a, (a < 82 ∨ 87 < a) → (a < 103 ∨ 110 < a) → G' a = G a) ∧ ∀ k, (2 < k ∧ k < 9 ∨ 9 < k ∧ k < 34 ∨ 41 < k) → G' 82 k = G 82 k) (by omega) (by
    simp (disch := omega) only [s188_0, m188_1, s188_4, s188_4b, s188_7, s188_9, s188_10, s188_11, m188_12, m188_15, s188_18, s188_19, m188_20, m188_23, s188_26, s188_27, m188_28, m188_31, s188_34, s188_35, m188_36, m188_39, s188_42, s188_43, m188_44, m188_47, s188_50, s188_51, m188_52, m188_55, s188_58, s188_59, m188_60, m188_63, s188_66, s188_67, m188_68, m188_71, s188_74, s188_75, Int.toNat_natCast, Int.toNat_natCast, Nat.reduceAdd, Nat.reduceMul, Int.reduceToNat, Int.reduceAdd, Int.reduceLT, Int.reduceLE, Int.reduceEq, Int.reduceNeg, Int.reduceMul, Int.reduceSub, Nat.reduceSub, reduceIte, ite_true, ite_false, and_true, true_and, and_self, hs, ug_k, v9, v0, v1, v2, p0, q0, r0, t0]
    refine lp188_76 (fun G1 a1 a2 a3 f1 => ?_) 6 0 _ rfl (fun i hi => absurd hi (Nat.not_lt_zero i)) (fun i hi => absurd hi (Nat.not_lt_zero i)) (fun i hi => absurd hi (Nat.not_lt_zero i)) (fun _ _ _ _ => rfl)
    simp (disch := omega) only [s188_124, s188_125, Int.toNat_natCast, Int.toNat_natCast, Nat.reduceAdd, Nat.reduceMul, Int.reduceToNat, Int.reduceAdd, Int.reduceLT, Int.reduceLE, Int.reduceEq, Int.reduceNeg, Int.reduceMul, Int.reduceSub, Nat.reduceSub, reduceIte, ite_true, ite_false, and_true, true_and, and_self]
    refine lp188_126 (fun G2 b1 f2 => ?_) 24 0 G1 rfl (fun i hi => absurd hi (Nat.not_lt_zero i)) (fun _ _ => rfl)
    simp (disch := omega) only [s188_150, s188_151, Int.toNat_natCast, Int.toNat_natCast, Nat.reduceAdd, Nat.reduceMul, Int.reduceToNat, Int.reduceAdd, Int.reduceLT, Int.reduceLE, Int.reduceEq, Int.reduceNeg, Int.reduceMul, Int.reduceSub, Nat.reduceSub, reduceIte, ite_true, ite_false, and_true, true_and, and_self]
    refine lp188_152 (fun G3 c1 f3 => ?_) 4 0 G2 rfl (fun i hi => absurd hi (Nat.not_lt_zero i)) (fun _ _ => rfl)
    simp (disch := omega) only [s188_175, s188_176, Int.toNat_natCast, Int.toNat_natCast, Nat.reduceAdd, Nat.reduceMul, Int.reduceToNat, Int.reduceAdd, Int.reduceLT, Int.reduceLE, Int.reduceEq, Int.reduceNeg, Int.reduceMul, Int.reduceSub, Nat.reduceSub, reduceIte, ite_true, ite_false, and_true, true_and, and_self]
    refine lp188_177 (fun G4 d1 d2 d3 f4 => ?_) 5 0 G3 rfl (fun i hi => absurd hi (Nat.not_lt_zero i)) (fun i hi => absurd hi (Nat.not_lt_zero i)) (fun i hi => absurd hi (Nat.not_lt_zero i)) (fun _ _ _ _ => rfl)
    simp (disch := omega) only [s188_224, s188_225, Int.toNat_natCast, Int.toNat_natCast, Nat.reduceAdd, Nat.reduceMul, Int.reduceToNat, Int.reduceAdd, Int.reduceLT, Int.reduceLE, Int.reduceEq, Int.reduceNeg, Int.reduceMul, Int.reduceSub, Nat.reduceSub, reduceIte, ite_true, ite_false, and_true, true_and, and_self]
    refine lp188_226 (fun G5 g1 g2 g3 f5 => ?_) 10 0 G4 rfl (fun i hi => absurd hi (Nat.not_lt_zero i)) (fun i hi => absurd hi (Nat.not_lt_zero i)) (fun i hi => absurd hi (Nat.not_lt_zero i)) (fun _ _ _ _ => rfl)
    simp (disch := omega) only [s188_274, s188_275, Int.toNat_natCast, Int.toNat_natCast, Nat.reduceAdd, Nat.reduceMul, Int.reduceToNat, Int.reduceAdd, Int.reduceLT, Int.reduceLE, Int.reduceEq, Int.reduceNeg, Int.reduceMul, Int.reduceSub, Nat.reduceSub, reduceIte, ite_true, ite_false, and_true, true_and, and_self]
    refine lp188_276 (fun G6 i1 i2 f6 => ?_) 8 0 G5 rfl (fun i hi => absurd hi (Nat.not_lt_zero i)) (fun i hi => absurd hi (Nat.not_lt_zero i)) (fun _ _ _ => rfl)
    have e82 : ∀ k, G6 82 k = G1 82 k := fun k => by rw [f6 82 (by omega) (by omega), f5 82 (by omega) (by omega) (by omega), f4 82 (by omega) (by omega) (by omega), f3 82 (by omega), f2 82 (by omega)]
    have x82 : G6 82 0 = I 0 0 := by
      rw [e82, f1 82 (by omega) (by omega) (by omega)]
      simp (disch := omega) only [ug_k, ug_at]
    simp (disch := omega) only [s188_312, m188_313, s188_316, Int.toNat_natCast, Int.toNat_natCast, Nat.reduceAdd, Nat.reduceMul, Int.reduceToNat, Int.reduceAdd, Int.reduceLT, Int.reduceLE, Int.reduceEq, Int.reduceNeg, Int.reduceMul, Int.reduceSub, Nat.reduceSub, reduceIte, ite_true, ite_false, and_true, true_and, and_self, x82]
    refine ⟨G6, rfl, ⟨⟨x82, ?_, ?_, ?_, ?_, ?_, ?_, ?_⟩, ⟨⟨?_, ?_⟩, ⟨?_, ?_, ?_, ?_⟩, ⟨?_, ?_, ?_⟩, ⟨?_, ?_, ?_⟩⟩, ?_⟩, ?_, ?_⟩
    · rw [e82, f1 82 (by omega) (by omega) (by omega)]; simp (disch := omega) only [ug_k, ug_at]
    · rw [e82, f1 82 (by omega) (by omega) (by omega)]; simp (disch := omega) only [ug_k, ug_at]
    · intro k hk; rw [f6 83 (by omega) (by omega), f5 83 (by omega) (by omega) (by omega), f4 83 (by omega) (by omega) (by omega), f3 83 (by omega), f2 83 (by omega), a1 k hk]; simp (disch := omega) only [ug_ne]; exact vk k hk
    · intro k hk; rw [f6 84 (by omega) (by omega), f5 84 (by omega) (by omega) (by omega), f4 84 (by omega) (by omega) (by omega), f3 84 (by omega), f2 84 (by omega), a2 k hk]; simp (disch := omega) only [ug_ne]; exact vv k hk
    · intro k hk; rw [f6 85 (by omega) (by omega), f5 85 (by omega) (by omega) (by omega), f4 85 (by omega) (by omega) (by omega), f3 85 (by omega), f2 85 (by omega), a3 k hk]; simp (disch := omega) only [ug_ne]; exact vf k hk
    · intro k hk; rw [f6 86 (by omega) (by omega), f5 86 (by omega) (by omega) (by omega), f4 86 (by omega) (by omega) (by omega), f3 86 (by omega), b1 k hk, f1 114 (by omega) (by omega) (by omega)]; simp (disch := omega) only [ug_ne]; exact vr k hk
    · intro k hk; rw [f6 87 (by omega) (by omega), f5 87 (by omega) (by omega) (by omega), f4 87 (by omega) (by omega) (by omega), c1 k hk, f2 115 (by omega), f1 115 (by omega) (by omega) (by omega)]; simp (disch := omega) only [ug_ne]; exact vs k hk
    · rw [e82, f1 82 (by omega) (by omega) (by omega)]; simp (disch := omega) only [ug_k, ug_at]
    · intro k hk; rw [f6 103 (by omega) (by omega), g1 k hk, f4 116 (by omega) (by omega) (by omega), f3 116 (by omega), f2 116 (by omega), f1 116 (by omega) (by omega) (by omega)]; simp (disch := omega) only [ug_ne]; exact p1 k hk
    · rw [e82, f1 82 (by omega) (by omega) (by omega)]; simp (disch := omega) only [ug_k, ug_at]
    · intro k hk; rw [f6 104 (by omega) (by omega), f5 104 (by omega) (by omega) (by omega), d1 k hk, f3 117 (by omega), f2 117 (by omega), f1 117 (by omega) (by omega) (by omega)]; simp (disch := omega) only [ug_ne]; exact q1 k hk
    · intro k hk; rw [f6 105 (by omega) (by omega), f5 105 (by omega) (by omega) (by omega), d2 k hk, f3 118 (by omega), f2 118 (by omega), f1 118 (by omega) (by omega) (by omega)]; simp (disch := omega) only [ug_ne]; exact q2 k hk
    · intro k hk; rw [f6 106 (by omega) (by omega), f5 106 (by omega) (by omega) (by omega), d3 k hk, f3 119 (by omega), f2 119 (by omega), f1 119 (by omega) (by omega) (by omega)]; simp (disch := omega) only [ug_ne]; exact q3 k hk
    · rw [e82, f1 82 (by omega) (by omega) (by omega)]; simp (disch := omega) only [ug_k, ug_at]
    · intro k hk; rw [f6 107 (by omega) (by omega), g2 k hk, f4 120 (by omega) (by omega) (by omega), f3 120 (by omega), f2 120 (by omega), f1 120 (by omega) (by omega) (by omega)]; simp (disch := omega) only [ug_ne]; exact r1 k hk
    · intro k hk; rw [f6 108 (by omega) (by omega), g3 k hk, f4 121 (by omega) (by omega) (by omega), f3 121 (by omega), f2 121 (by omega), f1 121 (by omega) (by omega) (by omega)]; simp (disch := omega) only [ug_ne]; exact r2 k hk
    · rw [e82, f1 82 (by omega) (by omega) (by omega)]; simp (disch := omega) only [ug_k, ug_at]
    · intro k hk; rw [i1 k hk, f5 122 (by omega) (by omega) (by omega), f4 122 (by omega) (by omega) (by omega), f3 122 (by omega), f2 122 (by omega), f1 122 (by omega) (by omega) (by omega)]; simp (disch := omega) only [ug_ne]; exact t1 k hk
    · intro k hk; rw [i2 k hk, f5 123 (by omega) (by omega) (by omega), f4 123 (by omega) (by omega) (by omega), f3 123 (by omega), f2 123 (by omega), f1 123 (by omega) (by omega) (by omega)]; simp (disch := omega) only [ug_ne]; exact t2 k hk
    · rw [e82, f1 82 (by omega) (by omega) (by omega)]; simp (disch := omega) only [ug_k, ug_at]
    · intro a x y; rw [f6 a (by omega) (by omega), f5 a (by omega) (by omega) (by omega), f4 a (by omega) (by omega) (by omega), f3 a (by omega), f2 a (by omega), f1 a (by omega) (by omega) (by omega)]; simp (disch := omega) only [ug_ne]
    · intro k x; rw [e82, f1 82 (by omega) (by omega) (by omega)]; simp (disch := omega) only [ug_k])
  exact ⟨G', by rw [hr, hX] at hS; exact hS, fun e => absurd e (by decide), fun _ => hq.1, hq.2⟩
