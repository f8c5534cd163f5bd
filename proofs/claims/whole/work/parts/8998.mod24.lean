/-! the model reads an E -/
theorem mrd_n {G : q_Gi} {n a k : Nat} {z : Int} {nx : Nat → Int} (h : mrd G n nx) (ha : a ≠ 82) (hb : a ≠ 88) : mrd (ug G a k z) n nx := ⟨by rw [ug_ne (by omega)]; exact h.1, h.2.1, fun j hj => by rw [ug_ne (by omega)]; exact h.2.2.1 j hj, h.2.2.2⟩
theorem opn_l : ∀ W : List Int, opn W ≤ W.length := by
  intro W
  induction W with
  | nil => exact Nat.le_refl _
  | cons c W ih =>
    unfold opn
    rw [List.length_cons]
    split <;> omega
theorem pop_l : ∀ W : List Int, (popN W).length + (nots W).length = W.length := by
  intro W
  induction W with
  | nil => rfl
  | cons c W ih =>
    unfold popN nots
    by_cases c1 : c = 33
    · rw [if_pos c1, if_pos c1, List.length_cons, List.length_cons]; omega
    · rw [if_neg c1, if_neg c1, List.length_cons, List.length_nil]
theorem pop_w : ∀ W : List Int, wOK W → wOK (popN W) := by
  intro W
  induction W with
  | nil => intro h; exact h
  | cons c W ih =>
    intro h
    unfold popN
    by_cases c1 : c = 33
    · rw [if_pos c1]; exact ih (wOK_t h)
    · rw [if_neg c1]; exact h
theorem st3_l : ∀ W T : List Int, (stl3 W T).1.length + (stl3 W T).2.length = W.length + T.length ∧ (wOK W → wOK (stl3 W T).1) ∧ (stl3 W T).1.length ≤ W.length := by
  intro W
  induction W with
  | nil => intro T; exact ⟨rfl, fun h => h, Nat.le_refl _⟩
  | cons c W ih =>
    intro T
    unfold stl3
    by_cases c1 : c = 38
    · rw [if_pos c1]
      have := ih (T ++ [-1])
      rw [List.length_append, List.length_cons, List.length_nil] at this
      rw [List.length_cons]
      exact ⟨by omega, fun h => this.2.1 (wOK_t h), by omega⟩
    · rw [if_neg c1]; exact ⟨rfl, fun h => h, Nat.le_refl _⟩
theorem stO_l : ∀ W T : List Int, (stlO W T).1.length + (stlO W T).2.length = W.length + T.length ∧ (wOK W → wOK (stlO W T).1) ∧ (stlO W T).1.length ≤ W.length ∧ ∀ a r, (stlO W T).1 = a :: r → ¬ a = 38 ∧ ¬ a = 124 := by
  intro W
  induction W with
  | nil => intro T; exact ⟨rfl, fun h => h, Nat.le_refl _, fun a r e => by cases e⟩
  | cons c W ih =>
    intro T
    unfold stlO
    by_cases c1 : c = 38
    · rw [if_pos c1]
      have := ih (T ++ [-1])
      rw [List.length_append, List.length_cons, List.length_nil] at this
      rw [List.length_cons]
      exact ⟨by omega, fun h => this.2.1 (wOK_t h), by omega, this.2.2.2⟩
    · rw [if_neg c1]
      by_cases c2 : c = 124
      · rw [if_pos c2]
        have := ih (T ++ [-2])
        rw [List.length_append, List.length_cons, List.length_nil] at this
        rw [List.length_cons]
        exact ⟨by omega, fun h => this.2.1 (wOK_t h), by omega, this.2.2.2⟩
      · rw [if_neg c2]; exact ⟨rfl, fun h => h, Nat.le_refl _, fun a r e => by
          injection e with e1 e2
          subst e1
          exact ⟨c1, c2⟩⟩
/-- the frame of reading an E, its end told -/
def emt (c S0 : Nat) (G G' : q_Gi) : Prop := (∀ a, a ≠ 82 → a ≠ 93 → a ≠ 94 → a ≠ 95 → G' a = G a) ∧ (∀ k, k ≠ 11 → k ≠ 12 → k ≠ 21 → k ≠ 22 → k ≠ 23 → G' 82 k = G 82 k) ∧ (∀ k, k < S0 → G' 94 k = G 94 k) ∧ ∀ k, k ≠ c → G' 93 k = G 93 k
theorem emt_of {c S0 : Nat} {G G' : q_Gi} (h : emf S0 G G') : emt c S0 G G' := ⟨fun a x y z w => h.1 a x z w, h.2.1, h.2.2, fun k _ => by rw [h.1 93 (by omega) (by omega) (by omega)]⟩
theorem emt_t {c S0 : Nat} {G G' G'' : q_Gi} (h1 : emt c S0 G G') (h2 : emt c S0 G' G'') : emt c S0 G G'' := ⟨fun a x y z w => (h2.1 a x y z w).trans (h1.1 a x y z w), fun k x y z w u => (h2.2.1 k x y z w u).trans (h1.2.1 k x y z w u), fun k x => (h2.2.2.1 k x).trans (h1.2.2.1 k x), fun k x => (h2.2.2.2 k x).trans (h1.2.2.2 k x)⟩
theorem emt_m {c S0 n : Nat} {G G' : q_Gi} {nx : Nat → Int} (h : emt c S0 G G') (hm : mrd G n nx) : mrd G' n nx := ⟨by rw [h.2.1 10 (by omega) (by omega) (by omega) (by omega) (by omega)]; exact hm.1, hm.2.1, by rw [h.1 88 (by omega) (by omega) (by omega) (by omega)]; exact hm.2.2.1, hm.2.2.2⟩
def emQ (c S0 N L : Nat) (B : q_Bv) (G0 : q_Gi) (r : Bool × Nat × List Int) (r1 : Option Value) (X1 : q_H) : Prop := ∃ G', r1 = some (vI (bI (r.1 = true))) ∧ X1 = hp N L B G' ∧ G' 82 11 = (r.2.1 : Int) ∧ emt c S0 G0 G' ∧ (r.1 = true → G' 93 c = ((S0 + r.2.2.length : Nat) : Int) ∧ sgs G' S0 r.2.2)
theorem lp133 {d c S0 n N L : Nat} {B : q_Bv} {nx : Nat → Int} {G0 : q_Gi} (hd : 6 ≤ d) (hc : c < 60) : ∀ (k p : Nat) (w : Bool) (W T : List Int) (r : Bool × Nat × List Int) (G : q_Gi) (x3 : Value), runE nx k p w W T = some r → mrd G n nx → G 82 11 = (p : Int) → p ≤ n → est G W T S0 → wOK W → S0 + T.length + W.length ≤ 500 + p → W.length ≤ p → emt c S0 G0 G → nL x3 = true → WP d 133 22 [.ref 82, vI c, vI (bI (w = true)), x3] [] (hp N L B G) (emQ c S0 N L B G0 r) := by
  intro k
  induction k with
  | zero =>
    intro p w W T r G x3 h
    have h' : (none : Option (Bool × Nat × List Int)) = some r := h
    cases h'
  | succ k ih =>
    intro p w W T r G x3 h hm ha hpn he hw hl hWp hf hx
    have ht := hm.2.2.2
    have hn := hm.2.1
    have h122 := sp122 (d := d) (N := N) (L := L) (B := B) (by omega) hm ha hpn
    have hr := nx_r ht p
    have hh := he
    obtain ⟨w0, w1, w2, w3⟩ := he
    have ep : (p : Int) + 1 = ((p + 1 : Nat) : Int) := rfl
    cases w with
    | true =>
      rw [bI_t rfl]
      have h' : (if nx p = 33 ∨ nx p = 40 then (if opn W = 4 then some (false, p, []) else runE nx k (p + 1) true (nx p :: W) T) else if (tstS nx p).1 = true then runE nx k (tstS nx p).2.1 false (popN W) (T ++ ((tstS nx p).2.2 ++ nots W)) else some (false, (tstS nx p).2.1, [])) = some r := h
      by_cases c0 : nx p = 33 ∨ nx p = 40
      · rw [if_pos c0] at h'
        have l1 : p < n := txt_lt ht (c := nx p) (by omega) rfl
        by_cases o4 : opn W = 4
        · rw [if_pos o4] at h'
          have := Option.some.inj h'
          subst this
          have w1' : G 82 23 = 4 := by rw [w1, o4]; rfl
          have : emQ c S0 N L B G0 (false, p, []) (some (vI 0)) (hp N L B G) := ⟨G, by rw [bI_f Bool.false_ne_true], rfl, ha, hf, fun e => absurd e Bool.false_ne_true⟩
          rw [s133_22]
          rcases c0 with c0 | c0
          · rw [c0] at h122
            simp (disch := omega) only [s133_26, s133_27, s133_28, s133_28b, s133_31, s133_32, s133_34, s133_34b, s133_37, s133_38, s133_40, s133_40b, s133_43, m133_44, s133_47, s133_48, s133_48b, s133_51, s133_52, s133_52b, s133_53, s133_54, m133_55, s133_58, s133_59, m133_60, s133_63, m133_64, s133_67, m133_68, s133_71, m133_72, s133_73, s133_74, m133_75, s133_78, s133_79, m133_80, s133_83, s133_84, m133_85, s133_88, s133_89, m133_90, s133_93, s133_96, s133_100, s133_100b, s133_103, s133_104, s133_105, s133_108, s133_109, s133_109b, s133_110, s133_111, s133_113, s133_113b, s133_116, s133_117, s133_119, s133_119b, s133_122, s133_123, s133_127, m133_128, s133_131, m133_132, s133_135, m133_136, s133_137, s133_138, m133_139, s133_142, s133_143, m133_144, s133_147, s133_148, s133_149, s133_150, m133_151, s133_154, s133_155, m133_156, s133_159, s133_162, s133_163, s133_168, m133_169, s133_172, s133_173, m133_174, m133_177, s133_178, m133_179, s133_182, s133_182b, s133_185, s133_186, s133_186b, s133_187, s133_188, s133_190, s133_190b, s133_193, s133_194, s133_194b, s133_195, s133_196, m133_197, s133_200, s133_201, m133_202, s133_205, s133_206, m133_207, s133_210, s133_211, m133_212, s133_215, s133_216, m133_217, s133_220, s133_221, m133_222, s133_225, s133_229, Int.toNat_natCast, Int.toNat_natCast, Nat.reduceAdd, Nat.reduceMul, Int.reduceToNat, Int.reduceAdd, Int.reduceLT, Int.reduceLE, Int.reduceEq, Int.reduceNeg, Int.reduceMul, Int.reduceSub, Nat.reduceSub, reduceIte, ite_true, ite_false, and_true, true_and, and_self, m133_23 h122, w1']
            exact this
          · rw [c0] at h122
            simp (disch := omega) only [s133_26, s133_27, s133_28, s133_28b, s133_31, s133_32, s133_34, s133_34b, s133_37, s133_38, s133_40, s133_40b, s133_43, m133_44, s133_47, s133_48, s133_48b, s133_51, s133_52, s133_52b, s133_53, s133_54, m133_55, s133_58, s133_59, m133_60, s133_63, m133_64, s133_67, m133_68, s133_71, m133_72, s133_73, s133_74, m133_75, s133_78, s133_79, m133_80, s133_83, s133_84, m133_85, s133_88, s133_89, m133_90, s133_93, s133_96, s133_100, s133_100b, s133_103, s133_104, s133_105, s133_108, s133_109, s133_109b, s133_110, s133_111, s133_113, s133_113b, s133_116, s133_117, s133_119, s133_119b, s133_122, s133_123, s133_127, m133_128, s133_131, m133_132, s133_135, m133_136, s133_137, s133_138, m133_139, s133_142, s133_143, m133_144, s133_147, s133_148, s133_149, s133_150, m133_151, s133_154, s133_155, m133_156, s133_159, s133_162, s133_163, s133_168, m133_169, s133_172, s133_173, m133_174, m133_177, s133_178, m133_179, s133_182, s133_182b, s133_185, s133_186, s133_186b, s133_187, s133_188, s133_190, s133_190b, s133_193, s133_194, s133_194b, s133_195, s133_196, m133_197, s133_200, s133_201, m133_202, s133_205, s133_206, m133_207, s133_210, s133_211, m133_212, s133_215, s133_216, m133_217, s133_220, s133_221, m133_222, s133_225, s133_229, Int.toNat_natCast, Int.toNat_natCast, Nat.reduceAdd, Nat.reduceMul, Int.reduceToNat, Int.reduceAdd, Int.reduceLT, Int.reduceLE, Int.reduceEq, Int.reduceNeg, Int.reduceMul, Int.reduceSub, Nat.reduceSub, reduceIte, ite_true, ite_false, and_true, true_and, and_self, m133_23 h122, w1']
            exact this
        · rw [if_neg o4] at h'
          have o4' : ¬ (opn W : Int) = 4 := by omega
          have o4f := eq_false o4'
          have hol := opn_l W
          have hwn : wOK (nx p :: W) := wOK_c (by omega) hw
          have hop : opn (nx p :: W) = opn W + 1 := by
            show (if nx p = 33 ∨ nx p = 40 then opn W + 1 else opn W) = _
            rw [if_pos c0]
          have := ih (p + 1) true (nx p :: W) T r (ug (ug (ug (ug G 82 23 ((opn W : Int) + 1)) 95 W.length (nx p)) 82 22 ((W.length : Int) + 1)) 82 11 ((p + 1 : Nat) : Int)) (vI (nx p)) h' (mrd_u (mrd_u (mrd_n (mrd_u hm (by omega)) (by omega) (by omega)) (by omega)) (by omega)) ug_at (by omega) ⟨by rw [ug_k (by omega), ug_at]; rfl, by rw [ug_k (by omega), ug_k (by omega), ug_ne (by omega), ug_at, hop]; rfl, ⟨by rw [ug_ne (by omega), ug_ne (by omega), ug_at], wst_n (by omega) (wst_n (by omega) (wst_u (Nat.le_refl _) (wst_n (by omega) w2)))⟩, sgs_n (sgs_n (sgs_n (sgs_n w3 (by omega) (by omega)) (by omega) (by omega)) (by omega) (by omega)) (by omega) (by omega)⟩ hwn (by rw [List.length_cons]; omega) (by rw [List.length_cons]; omega) (emt_t hf (emt_of ⟨fun a x y z => by rw [ug_ne x, ug_ne x, ug_ne z, ug_ne x], fun k x y z w u => by rw [ug_k x, ug_k w, ug_ne (by omega), ug_k u], fun k hk => by rw [ug_ne (by omega), ug_ne (by omega), ug_ne (by omega), ug_ne (by omega)]⟩)) rfl
          rw [bI_t rfl] at this
          rw [s133_22]
          rcases c0 with c0 | c0
          · rw [c0] at h122 this
            simp (disch := omega) only [s133_26, s133_27, s133_28, s133_28b, s133_31, s133_32, s133_34, s133_34b, s133_37, s133_38, s133_40, s133_40b, s133_43, m133_44, s133_47, s133_48, s133_48b, s133_51, s133_52, s133_52b, s133_53, s133_54, m133_55, s133_58, s133_59, m133_60, s133_63, m133_64, s133_67, m133_68, s133_71, m133_72, s133_73, s133_74, m133_75, s133_78, s133_79, m133_80, s133_83, s133_84, m133_85, s133_88, s133_89, m133_90, s133_93, s133_96, s133_100, s133_100b, s133_103, s133_104, s133_105, s133_108, s133_109, s133_109b, s133_110, s133_111, s133_113, s133_113b, s133_116, s133_117, s133_119, s133_119b, s133_122, s133_123, s133_127, m133_128, s133_131, m133_132, s133_135, m133_136, s133_137, s133_138, m133_139, s133_142, s133_143, m133_144, s133_147, s133_148, s133_149, s133_150, m133_151, s133_154, s133_155, m133_156, s133_159, s133_162, s133_163, s133_168, m133_169, s133_172, s133_173, m133_174, m133_177, s133_178, m133_179, s133_182, s133_182b, s133_185, s133_186, s133_186b, s133_187, s133_188, s133_190, s133_190b, s133_193, s133_194, s133_194b, s133_195, s133_196, m133_197, s133_200, s133_201, m133_202, s133_205, s133_206, m133_207, s133_210, s133_211, m133_212, s133_215, s133_216, m133_217, s133_220, s133_221, m133_222, s133_225, s133_229, Int.toNat_natCast, Int.toNat_natCast, Nat.reduceAdd, Nat.reduceMul, Int.reduceToNat, Int.reduceAdd, Int.reduceLT, Int.reduceLE, Int.reduceEq, Int.reduceNeg, Int.reduceMul, Int.reduceSub, Nat.reduceSub, reduceIte, ite_true, ite_false, and_true, true_and, and_self, m133_23 h122, w1, w0, ha, ep, ug_k, ug_ne, o4f, if_false]
            exact this
          · rw [c0] at h122 this
            simp (disch := omega) only [s133_26, s133_27, s133_28, s133_28b, s133_31, s133_32, s133_34, s133_34b, s133_37, s133_38, s133_40, s133_40b, s133_43, m133_44, s133_47, s133_48, s133_48b, s133_51, s133_52, s133_52b, s133_53, s133_54, m133_55, s133_58, s133_59, m133_60, s133_63, m133_64, s133_67, m133_68, s133_71, m133_72, s133_73, s133_74, m133_75, s133_78, s133_79, m133_80, s133_83, s133_84, m133_85, s133_88, s133_89, m133_90, s133_93, s133_96, s133_100, s133_100b, s133_103, s133_104, s133_105, s133_108, s133_109, s133_109b, s133_110, s133_111, s133_113, s133_113b, s133_116, s133_117, s133_119, s133_119b, s133_122, s133_123, s133_127, m133_128, s133_131, m133_132, s133_135, m133_136, s133_137, s133_138, m133_139, s133_142, s133_143, m133_144, s133_147, s133_148, s133_149, s133_150, m133_151, s133_154, s133_155, m133_156, s133_159, s133_162, s133_163, s133_168, m133_169, s133_172, s133_173, m133_174, m133_177, s133_178, m133_179, s133_182, s133_182b, s133_185, s133_186, s133_186b, s133_187, s133_188, s133_190, s133_190b, s133_193, s133_194, s133_194b, s133_195, s133_196, m133_197, s133_200, s133_201, m133_202, s133_205, s133_206, m133_207, s133_210, s133_211, m133_212, s133_215, s133_216, m133_217, s133_220, s133_221, m133_222, s133_225, s133_229, Int.toNat_natCast, Int.toNat_natCast, Nat.reduceAdd, Nat.reduceMul, Int.reduceToNat, Int.reduceAdd, Int.reduceLT, Int.reduceLE, Int.reduceEq, Int.reduceNeg, Int.reduceMul, Int.reduceSub, Nat.reduceSub, reduceIte, ite_true, ite_false, and_true, true_and, and_self, m133_23 h122, w1, w0, ha, ep, ug_k, ug_ne, o4f, if_false]
            exact this
      · rw [if_neg c0] at h'
        have n33 := eq_false (show ¬ nx p = 33 from fun e => c0 (Or.inl e))
        have n40 := eq_false (show ¬ nx p = 40 from fun e => c0 (Or.inr e))
        obtain ⟨G1, s1, a1, f1, e1⟩ := sp132 (d := d) (S0 := S0) (W := W) (T := T) (N := N) (L := L) (B := B) (by omega) hm ha hpn hh hw (by omega) (by omega)
        by_cases ok : (tstS nx p).1 = true
        · rw [if_pos ok] at h'
          rw [bI_t ok] at s1
          have hg := tst_g ht p hpn
          have hpl := pop_l W
          have hgl : (tstS nx p).2.2.length + p ≤ (tstS nx p).2.1 := by omega
          have := ih (tstS nx p).2.1 false (popN W) (T ++ ((tstS nx p).2.2 ++ nots W)) r G1 (vI (nx p)) h' (emf_m f1 hm) a1 hg.2 (e1 ok) (pop_w W hw) (by rw [List.length_append, List.length_append]; omega) (by omega) (emt_t hf (emt_of f1)) rfl
          rw [bI_f Bool.false_ne_true] at this
          rw [s133_22]
          simp (disch := omega) only [s133_26, s133_27, s133_28, s133_28b, s133_31, s133_32, s133_34, s133_34b, s133_37, s133_38, s133_40, s133_40b, s133_43, m133_44, s133_47, s133_48, s133_48b, s133_51, s133_52, s133_52b, s133_53, s133_54, m133_55, s133_58, s133_59, m133_60, s133_63, m133_64, s133_67, m133_68, s133_71, m133_72, s133_73, s133_74, m133_75, s133_78, s133_79, m133_80, s133_83, s133_84, m133_85, s133_88, s133_89, m133_90, s133_93, s133_96, s133_100, s133_100b, s133_103, s133_104, s133_105, s133_108, s133_109, s133_109b, s133_110, s133_111, s133_113, s133_113b, s133_116, s133_117, s133_119, s133_119b, s133_122, s133_123, s133_127, m133_128, s133_131, m133_132, s133_135, m133_136, s133_137, s133_138, m133_139, s133_142, s133_143, m133_144, s133_147, s133_148, s133_149, s133_150, m133_151, s133_154, s133_155, m133_156, s133_159, s133_162, s133_163, s133_168, m133_169, s133_172, s133_173, m133_174, m133_177, s133_178, m133_179, s133_182, s133_182b, s133_185, s133_186, s133_186b, s133_187, s133_188, s133_190, s133_190b, s133_193, s133_194, s133_194b, s133_195, s133_196, m133_197, s133_200, s133_201, m133_202, s133_205, s133_206, m133_207, s133_210, s133_211, m133_212, s133_215, s133_216, m133_217, s133_220, s133_221, m133_222, s133_225, s133_229, Int.toNat_natCast, Int.toNat_natCast, Nat.reduceAdd, Nat.reduceMul, Int.reduceToNat, Int.reduceAdd, Int.reduceLT, Int.reduceLE, Int.reduceEq, Int.reduceNeg, Int.reduceMul, Int.reduceSub, Nat.reduceSub, reduceIte, ite_true, ite_false, and_true, true_and, and_self, m133_23 h122, n33, n40, if_false, m133_97 s1]
          exact this
        · rw [if_neg ok] at h'
          have := Option.some.inj h'
          subst this
          rw [bI_f ok] at s1
          have : emQ c S0 N L B G0 (false, (tstS nx p).2.1, []) (some (vI 0)) (hp N L B G1) := ⟨G1, by rw [bI_f Bool.false_ne_true], rfl, a1, emt_t hf (emt_of f1), fun e => absurd e Bool.false_ne_true⟩
          rw [s133_22]
          simp (disch := omega) only [s133_26, s133_27, s133_28, s133_28b, s133_31, s133_32, s133_34, s133_34b, s133_37, s133_38, s133_40, s133_40b, s133_43, m133_44, s133_47, s133_48, s133_48b, s133_51, s133_52, s133_52b, s133_53, s133_54, m133_55, s133_58, s133_59, m133_60, s133_63, m133_64, s133_67, m133_68, s133_71, m133_72, s133_73, s133_74, m133_75, s133_78, s133_79, m133_80, s133_83, s133_84, m133_85, s133_88, s133_89, m133_90, s133_93, s133_96, s133_100, s133_100b, s133_103, s133_104, s133_105, s133_108, s133_109, s133_109b, s133_110, s133_111, s133_113, s133_113b, s133_116, s133_117, s133_119, s133_119b, s133_122, s133_123, s133_127, m133_128, s133_131, m133_132, s133_135, m133_136, s133_137, s133_138, m133_139, s133_142, s133_143, m133_144, s133_147, s133_148, s133_149, s133_150, m133_151, s133_154, s133_155, m133_156, s133_159, s133_162, s133_163, s133_168, m133_169, s133_172, s133_173, m133_174, m133_177, s133_178, m133_179, s133_182, s133_182b, s133_185, s133_186, s133_186b, s133_187, s133_188, s133_190, s133_190b, s133_193, s133_194, s133_194b, s133_195, s133_196, m133_197, s133_200, s133_201, m133_202, s133_205, s133_206, m133_207, s133_210, s133_211, m133_212, s133_215, s133_216, m133_217, s133_220, s133_221, m133_222, s133_225, s133_229, Int.toNat_natCast, Int.toNat_natCast, Nat.reduceAdd, Nat.reduceMul, Int.reduceToNat, Int.reduceAdd, Int.reduceLT, Int.reduceLE, Int.reduceEq, Int.reduceNeg, Int.reduceMul, Int.reduceSub, Nat.reduceSub, reduceIte, ite_true, ite_false, and_true, true_and, and_self, m133_23 h122, n33, n40, if_false, m133_97 s1]
          exact this
    | false =>
      rw [bI_f Bool.false_ne_true]
      have h' : (if nx p = 38 then runE nx k (p + 1) true (38 :: (stl3 W T).1) (stl3 W T).2 else if nx p = 124 then runE nx k (p + 1) true (124 :: (stlO W T).1) (stlO W T).2 else match (stlO W T).1 with
        | [] => some (true, p, (stlO W T).2)
        | _ :: r => if nx p = 41 then runE nx k (p + 1) false (popN r) ((stlO W T).2 ++ nots r) else some (false, p, [])) = some r := h
      by_cases c0 : nx p = 38
      · first | rw [if_neg c0, if_pos c0] at h' | rw [if_pos c0] at h'
        rw [c0] at h122
        obtain ⟨G1, s1, e1, f1, a1⟩ := sp130_3 (d := d) (S0 := S0) (W := W) (T := T) (N := N) (L := L) (B := B) (by omega) hh hw (by omega) (by omega)
        obtain ⟨v0, v1, v2, v3⟩ := e1
        have sl := st3_l W T
        have l1 : p < n := txt_lt ht (by decide) c0
        have hwn : wOK (38 :: (stl3 W T).1) := wOK_c (by omega) (sl.2.1 hw)
        rw [ha] at a1
        have := ih (p + 1) true (38 :: (stl3 W T).1) (stl3 W T).2 r (ug (ug (ug G1 95 (stl3 W T).1.length 38) 82 22 (((stl3 W T).1.length : Int) + 1)) 82 11 ((p + 1 : Nat) : Int)) (vI 38) h' (mrd_u (mrd_u (mrd_n (emf_m f1 hm) (by omega) (by omega)) (by omega)) (by omega)) ug_at (by omega) ⟨by rw [ug_k (by omega), ug_at]; rfl, by rw [ug_k (by omega), ug_k (by omega), ug_ne (by omega), v1]; rfl, ⟨by rw [ug_ne (by omega), ug_ne (by omega), ug_at], wst_n (by omega) (wst_n (by omega) (wst_u (Nat.le_refl _) v2))⟩, sgs_n (sgs_n (sgs_n v3 (by omega) (by omega)) (by omega) (by omega)) (by omega) (by omega)⟩ hwn (by rw [List.length_cons]; omega) (by rw [List.length_cons]; omega) (emt_t hf (emt_of (emf_t f1 ⟨fun a x y z => by rw [ug_ne x, ug_ne x, ug_ne z], fun k x y z w u => by rw [ug_k x, ug_k w, ug_ne (by omega)], fun k hk => by rw [ug_ne (by omega), ug_ne (by omega), ug_ne (by omega)]⟩))) rfl
        rw [bI_t rfl] at this
        rw [s133_22]
        simp (disch := omega) only [s133_26, s133_27, s133_28, s133_28b, s133_31, s133_32, s133_34, s133_34b, s133_37, s133_38, s133_40, s133_40b, s133_43, m133_44, s133_47, s133_48, s133_48b, s133_51, s133_52, s133_52b, s133_53, s133_54, m133_55, s133_58, s133_59, m133_60, s133_63, m133_64, s133_67, m133_68, s133_71, m133_72, s133_73, s133_74, m133_75, s133_78, s133_79, m133_80, s133_83, s133_84, m133_85, s133_88, s133_89, m133_90, s133_93, s133_96, s133_100, s133_100b, s133_103, s133_104, s133_105, s133_108, s133_109, s133_109b, s133_110, s133_111, s133_113, s133_113b, s133_116, s133_117, s133_119, s133_119b, s133_122, s133_123, s133_127, m133_128, s133_131, m133_132, s133_135, m133_136, s133_137, s133_138, m133_139, s133_142, s133_143, m133_144, s133_147, s133_148, s133_149, s133_150, m133_151, s133_154, s133_155, m133_156, s133_159, s133_162, s133_163, s133_168, m133_169, s133_172, s133_173, m133_174, m133_177, s133_178, m133_179, s133_182, s133_182b, s133_185, s133_186, s133_186b, s133_187, s133_188, s133_190, s133_190b, s133_193, s133_194, s133_194b, s133_195, s133_196, m133_197, s133_200, s133_201, m133_202, s133_205, s133_206, m133_207, s133_210, s133_211, m133_212, s133_215, s133_216, m133_217, s133_220, s133_221, m133_222, s133_225, s133_229, Int.toNat_natCast, Int.toNat_natCast, Nat.reduceAdd, Nat.reduceMul, Int.reduceToNat, Int.reduceAdd, Int.reduceLT, Int.reduceLE, Int.reduceEq, Int.reduceNeg, Int.reduceMul, Int.reduceSub, Nat.reduceSub, reduceIte, ite_true, ite_false, and_true, true_and, and_self, m133_23 h122, m133_124 s1, v0, a1, ep, ug_k, ug_ne]
        exact this
      by_cases c1 : nx p = 124
      · first | rw [if_neg c0, if_pos c1] at h' | rw [if_pos c1] at h'
        rw [c1] at h122
        obtain ⟨G1, s1, e1, f1, a1⟩ := sp130_O (d := d) (S0 := S0) (W := W) (T := T) (N := N) (L := L) (B := B) (by omega) hh hw (by omega) (by omega)
        obtain ⟨v0, v1, v2, v3⟩ := e1
        have sl := stO_l W T
        have l1 : p < n := txt_lt ht (by decide) c1
        have hwn : wOK (124 :: (stlO W T).1) := wOK_c (by omega) (sl.2.1 hw)
        rw [ha] at a1
        have := ih (p + 1) true (124 :: (stlO W T).1) (stlO W T).2 r (ug (ug (ug G1 95 (stlO W T).1.length 124) 82 22 (((stlO W T).1.length : Int) + 1)) 82 11 ((p + 1 : Nat) : Int)) (vI 124) h' (mrd_u (mrd_u (mrd_n (emf_m f1 hm) (by omega) (by omega)) (by omega)) (by omega)) ug_at (by omega) ⟨by rw [ug_k (by omega), ug_at]; rfl, by rw [ug_k (by omega), ug_k (by omega), ug_ne (by omega), v1]; rfl, ⟨by rw [ug_ne (by omega), ug_ne (by omega), ug_at], wst_n (by omega) (wst_n (by omega) (wst_u (Nat.le_refl _) v2))⟩, sgs_n (sgs_n (sgs_n v3 (by omega) (by omega)) (by omega) (by omega)) (by omega) (by omega)⟩ hwn (by rw [List.length_cons]; omega) (by rw [List.length_cons]; omega) (emt_t hf (emt_of (emf_t f1 ⟨fun a x y z => by rw [ug_ne x, ug_ne x, ug_ne z], fun k x y z w u => by rw [ug_k x, ug_k w, ug_ne (by omega)], fun k hk => by rw [ug_ne (by omega), ug_ne (by omega), ug_ne (by omega)]⟩))) rfl
        rw [bI_t rfl] at this
        rw [s133_22]
        simp (disch := omega) only [s133_26, s133_27, s133_28, s133_28b, s133_31, s133_32, s133_34, s133_34b, s133_37, s133_38, s133_40, s133_40b, s133_43, m133_44, s133_47, s133_48, s133_48b, s133_51, s133_52, s133_52b, s133_53, s133_54, m133_55, s133_58, s133_59, m133_60, s133_63, m133_64, s133_67, m133_68, s133_71, m133_72, s133_73, s133_74, m133_75, s133_78, s133_79, m133_80, s133_83, s133_84, m133_85, s133_88, s133_89, m133_90, s133_93, s133_96, s133_100, s133_100b, s133_103, s133_104, s133_105, s133_108, s133_109, s133_109b, s133_110, s133_111, s133_113, s133_113b, s133_116, s133_117, s133_119, s133_119b, s133_122, s133_123, s133_127, m133_128, s133_131, m133_132, s133_135, m133_136, s133_137, s133_138, m133_139, s133_142, s133_143, m133_144, s133_147, s133_148, s133_149, s133_150, m133_151, s133_154, s133_155, m133_156, s133_159, s133_162, s133_163, s133_168, m133_169, s133_172, s133_173, m133_174, m133_177, s133_178, m133_179, s133_182, s133_182b, s133_185, s133_186, s133_186b, s133_187, s133_188, s133_190, s133_190b, s133_193, s133_194, s133_194b, s133_195, s133_196, m133_197, s133_200, s133_201, m133_202, s133_205, s133_206, m133_207, s133_210, s133_211, m133_212, s133_215, s133_216, m133_217, s133_220, s133_221, m133_222, s133_225, s133_229, Int.toNat_natCast, Int.toNat_natCast, Nat.reduceAdd, Nat.reduceMul, Int.reduceToNat, Int.reduceAdd, Int.reduceLT, Int.reduceLE, Int.reduceEq, Int.reduceNeg, Int.reduceMul, Int.reduceSub, Nat.reduceSub, reduceIte, ite_true, ite_false, and_true, true_and, and_self, m133_23 h122, m133_124 s1, v0, a1, ep, ug_k, ug_ne]
        exact this
      rw [if_neg c0, if_neg c1] at h'
      have n38 := eq_false c0
      have n124 := eq_false c1
      obtain ⟨G1, s1, e1, f1, a1⟩ := sp130_O (d := d) (S0 := S0) (W := W) (T := T) (N := N) (L := L) (B := B) (by omega) hh hw (by omega) (by omega)
      have sl := stO_l W T
      rcases hs : stlO W T with ⟨W2, T2⟩
      rw [hs] at h' e1 sl
      simp only [] at h' e1 sl
      obtain ⟨v0, v1, v2, v3⟩ := e1
      rw [ha] at a1
      have F1 : emt c S0 G0 (ug G1 93 c (G1 82 21)) := emt_t hf (emt_t (emt_of f1) ⟨fun a x y z w => by rw [ug_ne y], fun k x y z w u => by rw [ug_ne (by omega)], fun k hk => by rw [ug_ne (by omega)], fun k hk => by rw [ug_k hk]⟩)
      cases W2 with
      | nil =>
        have := Option.some.inj h'
        subst this
        rw [List.length_nil] at v0
        have v0' : G1 82 22 = 0 := v0
        have : emQ c S0 N L B G0 (true, p, T2) (some (vI 1)) (hp N L B (ug G1 93 c (G1 82 21))) := ⟨_, by rw [bI_t rfl], rfl, by rw [ug_ne (by omega)]; exact a1, F1, fun _ => ⟨by rw [ug_at]; exact v3.1, sgs_n v3 (by omega) (by omega)⟩⟩
        rw [s133_22]
        simp (disch := omega) only [s133_26, s133_27, s133_28, s133_28b, s133_31, s133_32, s133_34, s133_34b, s133_37, s133_38, s133_40, s133_40b, s133_43, m133_44, s133_47, s133_48, s133_48b, s133_51, s133_52, s133_52b, s133_53, s133_54, m133_55, s133_58, s133_59, m133_60, s133_63, m133_64, s133_67, m133_68, s133_71, m133_72, s133_73, s133_74, m133_75, s133_78, s133_79, m133_80, s133_83, s133_84, m133_85, s133_88, s133_89, m133_90, s133_93, s133_96, s133_100, s133_100b, s133_103, s133_104, s133_105, s133_108, s133_109, s133_109b, s133_110, s133_111, s133_113, s133_113b, s133_116, s133_117, s133_119, s133_119b, s133_122, s133_123, s133_127, m133_128, s133_131, m133_132, s133_135, m133_136, s133_137, s133_138, m133_139, s133_142, s133_143, m133_144, s133_147, s133_148, s133_149, s133_150, m133_151, s133_154, s133_155, m133_156, s133_159, s133_162, s133_163, s133_168, m133_169, s133_172, s133_173, m133_174, m133_177, s133_178, m133_179, s133_182, s133_182b, s133_185, s133_186, s133_186b, s133_187, s133_188, s133_190, s133_190b, s133_193, s133_194, s133_194b, s133_195, s133_196, m133_197, s133_200, s133_201, m133_202, s133_205, s133_206, m133_207, s133_210, s133_211, m133_212, s133_215, s133_216, m133_217, s133_220, s133_221, m133_222, s133_225, s133_229, Int.toNat_natCast, Int.toNat_natCast, Nat.reduceAdd, Nat.reduceMul, Int.reduceToNat, Int.reduceAdd, Int.reduceLT, Int.reduceLE, Int.reduceEq, Int.reduceNeg, Int.reduceMul, Int.reduceSub, Nat.reduceSub, reduceIte, ite_true, ite_false, and_true, true_and, and_self, m133_23 h122, n38, n124, if_false, m133_165 s1, ug_ne, v0']
        exact this
      | cons a2 r2 =>
        simp only [] at h'
        rw [List.length_cons] at v0 sl
        have htop := sl.2.2.2 a2 r2 rfl
        have hw2 := sl.2.1 hw
        have ha2 := hw2 a2 (List.mem_cons_self ..)
        have hop : opn (a2 :: r2) = opn r2 + 1 := by
          show (if a2 = 33 ∨ a2 = 40 then opn r2 + 1 else opn r2) = _
          rw [if_pos (by omega)]
        rw [hop] at v1
        have nz0 := eq_false (show ¬ ((r2.length + 1 : Nat) : Int) = 0 by omega)
        by_cases c41 : nx p = 41
        · rw [if_pos c41] at h'
          rw [c41] at h122
          have l1 : p < n := txt_lt ht (by decide) c41
          have e3 : ((r2.length + 1 : Nat) : Int) - 1 = (r2.length : Int) := by omega
          have e4 : ((opn r2 + 1 : Nat) : Int) - 1 = (opn r2 : Int) := by omega
          have E2 : est (ug (ug (ug (ug G1 93 c (G1 82 21)) 82 22 (r2.length : Int)) 82 23 (opn r2 : Int)) 82 11 ((p + 1 : Nat) : Int)) r2 T2 S0 := ⟨by rw [ug_k (by omega), ug_k (by omega), ug_at], by rw [ug_k (by omega), ug_at], wst_n (by omega) (wst_n (by omega) (wst_n (by omega) (wst_n (by omega) v2.2))), sgs_n (sgs_n (sgs_n (sgs_n v3 (by omega) (by omega)) (by omega) (by omega)) (by omega) (by omega)) (by omega) (by omega)⟩
          obtain ⟨G2, s2, e2, f2, a2'⟩ := sp129 (d := d) (N := N) (L := L) (B := B) (by omega) E2 (wOK_t hw2) (by omega) (by omega)
          rw [ug_at] at a2'
          have hpl := pop_l r2
          have := ih (p + 1) false (popN r2) (T2 ++ nots r2) r G2 (vI 41) h' (emf_m f2 (mrd_u (mrd_u (mrd_u (mrd_n (emf_m f1 hm) (by omega) (by omega)) (by omega)) (by omega)) (by omega))) a2' (by omega) e2 (pop_w r2 (wOK_t hw2)) (by rw [List.length_append]; omega) (by omega) (emt_t F1 (emt_of (emf_t ⟨fun a x y z => by rw [ug_ne x, ug_ne x, ug_ne x], fun k x y z w u => by rw [ug_k x, ug_k u, ug_k w], fun k hk => by rw [ug_ne (by omega), ug_ne (by omega), ug_ne (by omega)]⟩ f2))) rfl
          rw [bI_f Bool.false_ne_true] at this
          rw [s133_22]
          simp (disch := omega) only [s133_26, s133_27, s133_28, s133_28b, s133_31, s133_32, s133_34, s133_34b, s133_37, s133_38, s133_40, s133_40b, s133_43, m133_44, s133_47, s133_48, s133_48b, s133_51, s133_52, s133_52b, s133_53, s133_54, m133_55, s133_58, s133_59, m133_60, s133_63, m133_64, s133_67, m133_68, s133_71, m133_72, s133_73, s133_74, m133_75, s133_78, s133_79, m133_80, s133_83, s133_84, m133_85, s133_88, s133_89, m133_90, s133_93, s133_96, s133_100, s133_100b, s133_103, s133_104, s133_105, s133_108, s133_109, s133_109b, s133_110, s133_111, s133_113, s133_113b, s133_116, s133_117, s133_119, s133_119b, s133_122, s133_123, s133_127, m133_128, s133_131, m133_132, s133_135, m133_136, s133_137, s133_138, m133_139, s133_142, s133_143, m133_144, s133_147, s133_148, s133_149, s133_150, m133_151, s133_154, s133_155, m133_156, s133_159, s133_162, s133_163, s133_168, m133_169, s133_172, s133_173, m133_174, m133_177, s133_178, m133_179, s133_182, s133_182b, s133_185, s133_186, s133_186b, s133_187, s133_188, s133_190, s133_190b, s133_193, s133_194, s133_194b, s133_195, s133_196, m133_197, s133_200, s133_201, m133_202, s133_205, s133_206, m133_207, s133_210, s133_211, m133_212, s133_215, s133_216, m133_217, s133_220, s133_221, m133_222, s133_225, s133_229, Int.toNat_natCast, Int.toNat_natCast, Nat.reduceAdd, Nat.reduceMul, Int.reduceToNat, Int.reduceAdd, Int.reduceLT, Int.reduceLE, Int.reduceEq, Int.reduceNeg, Int.reduceMul, Int.reduceSub, Nat.reduceSub, reduceIte, ite_true, ite_false, and_true, true_and, and_self, m133_23 h122, m133_165 s1, v0, v1, a1, nz0, if_false, ep, ug_k, ug_ne, e3, e4, m133_226 s2]
          exact this
        · rw [if_neg c41] at h'
          have := Option.some.inj h'
          subst this
          have n41 := eq_false c41
          have : emQ c S0 N L B G0 (false, p, []) (some (vI 0)) (hp N L B (ug G1 93 c (G1 82 21))) := ⟨_, by rw [bI_f Bool.false_ne_true], rfl, by rw [ug_ne (by omega)]; exact a1, F1, fun e => absurd e Bool.false_ne_true⟩
          rw [s133_22]
          simp (disch := omega) only [s133_26, s133_27, s133_28, s133_28b, s133_31, s133_32, s133_34, s133_34b, s133_37, s133_38, s133_40, s133_40b, s133_43, m133_44, s133_47, s133_48, s133_48b, s133_51, s133_52, s133_52b, s133_53, s133_54, m133_55, s133_58, s133_59, m133_60, s133_63, m133_64, s133_67, m133_68, s133_71, m133_72, s133_73, s133_74, m133_75, s133_78, s133_79, m133_80, s133_83, s133_84, m133_85, s133_88, s133_89, m133_90, s133_93, s133_96, s133_100, s133_100b, s133_103, s133_104, s133_105, s133_108, s133_109, s133_109b, s133_110, s133_111, s133_113, s133_113b, s133_116, s133_117, s133_119, s133_119b, s133_122, s133_123, s133_127, m133_128, s133_131, m133_132, s133_135, m133_136, s133_137, s133_138, m133_139, s133_142, s133_143, m133_144, s133_147, s133_148, s133_149, s133_150, m133_151, s133_154, s133_155, m133_156, s133_159, s133_162, s133_163, s133_168, m133_169, s133_172, s133_173, m133_174, m133_177, s133_178, m133_179, s133_182, s133_182b, s133_185, s133_186, s133_186b, s133_187, s133_188, s133_190, s133_190b, s133_193, s133_194, s133_194b, s133_195, s133_196, m133_197, s133_200, s133_201, m133_202, s133_205, s133_206, m133_207, s133_210, s133_211, m133_212, s133_215, s133_216, m133_217, s133_220, s133_221, m133_222, s133_225, s133_229, Int.toNat_natCast, Int.toNat_natCast, Nat.reduceAdd, Nat.reduceMul, Int.reduceToNat, Int.reduceAdd, Int.reduceLT, Int.reduceLE, Int.reduceEq, Int.reduceNeg, Int.reduceMul, Int.reduceSub, Nat.reduceSub, reduceIte, ite_true, ite_false, and_true, true_and, and_self, m133_23 h122, n38, n124, n41, if_false, m133_165 s1, ug_ne, v0, nz0]
          exact this
theorem sp133 {d c S0 n p N L : Nat} {B : q_Bv} {G : q_Gi} {nx : Nat → Int} (hd : 7 ≤ d) (hc : c < 60) (hm : mrd G n nx) (ha : G 82 11 = (p : Int)) (hpn : p ≤ n) (hs : G 82 21 = (S0 : Int)) (hl : S0 ≤ 500 + p) : ∃ G', Sp d 133 [.ref 82, vI c] (hp N L B G) (some (vI (bI ((eitS nx (oneS nx 4) p).1 = true)))) (hp N L B G') ∧ G' 82 11 = ((eitS nx (oneS nx 4) p).2.1 : Int) ∧ (∀ a, a ≠ 82 → a ≠ 92 → a ≠ 93 → a ≠ 94 → a ≠ 95 → G' a = G a) ∧ (∀ k, k ≠ 11 → k ≠ 12 → k ≠ 21 → k ≠ 22 → k ≠ 23 → G' 82 k = G 82 k) ∧ (∀ k, k < S0 → G' 94 k = G 94 k) ∧ (∀ k, k ≠ c → G' 93 k = G 93 k ∧ G' 92 k = G 92 k) ∧ G' 92 c = (S0 : Int) ∧ ((eitS nx (oneS nx 4) p).1 = true → G' 93 c = ((S0 + (eitS nx (oneS nx 4) p).2.2.length : Nat) : Int) ∧ sgs G' S0 (eitS nx (oneS nx 4) p).2.2) := by
  obtain ⟨k, hk⟩ := E_sim (nx := nx) (n := n) (p := p) hm.2.2.2 hm.2.1 hpn
  have hm1 : mrd (ug (ug (ug G 82 22 0) 82 23 0) 92 c (S0 : Int)) n nx := mrd_n (mrd_u (mrd_u hm (by omega)) (by omega)) (by omega) (by omega)
  have h1 := lp133 (d := d - 1) (S0 := S0) (N := N) (L := L) (B := B) (G0 := ug (ug (ug G 82 22 0) 82 23 0) 92 c (S0 : Int)) (by omega) hc k p true [] [] _ _ .null hk hm1 (by rw [ug_ne (by omega), ug_k (by omega), ug_k (by omega)]; exact ha) hpn ⟨by rw [ug_ne (by omega), ug_k (by omega), ug_at]; rfl, by rw [ug_ne (by omega), ug_at]; rfl, trivial, by rw [ug_ne (by omega), ug_k (by omega), ug_k (by omega)]; exact hs, fun k hk => absurd hk (Nat.not_lt_zero _)⟩ (fun c hc => absurd hc List.not_mem_nil) hl (Nat.zero_le _) ⟨fun _ _ _ _ _ => rfl, fun _ _ _ _ _ _ => rfl, fun _ _ => rfl, fun _ _ => rfl⟩ rfl
  rw [bI_t rfl] at h1
  obtain ⟨r1, X1, hS, G', hr, hX, q1, q2, q3⟩ := E133 (d := d) (X := hp N L B G) (z1 := (c : Int)) (by omega) (by
    rw [s133_0]
    simp (disch := omega) only [s133_1, m133_2, s133_5, s133_6, m133_7, s133_10, m133_11, s133_14, s133_15, m133_16, m133_19, s133_20, s133_21, Int.toNat_natCast, Int.toNat_natCast, Nat.reduceAdd, Nat.reduceMul, Int.reduceToNat, Int.reduceAdd, Int.reduceLT, Int.reduceLE, Int.reduceEq, Int.reduceNeg, Int.reduceMul, Int.reduceSub, Nat.reduceSub, reduceIte, ite_true, ite_false, and_true, true_and, and_self, hs, ug_k]
    exact h1)
  rw [hr, hX] at hS
  have e1 : (if (eitS nx (oneS nx 4) p).1 = true then (true, (eitS nx (oneS nx 4) p).2.1, (eitS nx (oneS nx 4) p).2.2) else (false, (eitS nx (oneS nx 4) p).2.1, ([] : List Int))).1 = (eitS nx (oneS nx 4) p).1 := by
    cases (eitS nx (oneS nx 4) p).1 <;> rfl
  have e2 : (if (eitS nx (oneS nx 4) p).1 = true then (true, (eitS nx (oneS nx 4) p).2.1, (eitS nx (oneS nx 4) p).2.2) else (false, (eitS nx (oneS nx 4) p).2.1, ([] : List Int))).2.1 = (eitS nx (oneS nx 4) p).2.1 := by
    cases (eitS nx (oneS nx 4) p).1 <;> rfl
  rw [e1] at hS
  rw [e2] at q1
  refine ⟨G', hS, q1, fun a x y z w u => by rw [q2.1 a x z w u, ug_ne y, ug_ne x, ug_ne x], fun k x y z w u => by rw [q2.2.1 k x y z w u, ug_ne (by omega), ug_k u, ug_k w], fun k hk => by rw [q2.2.2.1 k hk, ug_ne (by omega), ug_ne (by omega), ug_ne (by omega)], fun k hk => ⟨by rw [q2.2.2.2 k hk, ug_ne (by omega), ug_ne (by omega), ug_ne (by omega)], by rw [q2.1 92 (by omega) (by omega) (by omega) (by omega), ug_k hk, ug_ne (by omega), ug_ne (by omega)]⟩, by rw [q2.1 92 (by omega) (by omega) (by omega) (by omega), ug_at], fun ok => ?_⟩
  rw [if_pos ok] at q3
  exact q3 rfl
