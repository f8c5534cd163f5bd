/-! the model: an E, what a BELL likes -/
theorem mv_f {G G' H : q_Gi} (h : mv G H) (e : ∀ a, 82 ≤ a → a ≤ 87 → G' a = G a) : mv G' H := by
  unfold mv at h ⊢
  rw [e 82 (by omega) (by omega), e 83 (by omega) (by omega), e 84 (by omega) (by omega), e 85 (by omega) (by omega), e 86 (by omega) (by omega), e 87 (by omega) (by omega)]
  exact h
theorem rcW_f {G G' : q_Gi} {i : Nat} {r : Int × Int × List Int} (h : rcW G i r) (e : ∀ a, 90 ≤ a → a ≤ 94 → G' a = G a) : rcW G' i r := by
  unfold rcW at h ⊢
  rw [e 90 (by omega) (by omega), e 91 (by omega) (by omega), e 92 (by omega) (by omega), e 93 (by omega) (by omega), e 94 (by omega) (by omega)]
  exact h
theorem mu_f {G G' : q_Gi} {the : Int} {rc : List (Int × Int × List Int)} (h : mu G the rc) (e : ∀ a, 89 ≤ a → a ≤ 94 → G' a = G a) : mu G' the rc := by
  obtain ⟨b0, q1, q2, q3, q4, q5⟩ := h
  refine ⟨b0, q1, q2, ?_, fun i hi => rcW_f (q4 i hi) (fun a h1 h2 => e a (by omega) h2), q5⟩
  rw [e 89 (by omega) (by omega)]
  exact q3
theorem sp141 {d b f N L : Nat} {i : Int} {B : q_Bv} {G H : q_Gi} (hd : 1 ≤ d) (hv : mv G H) (ho : Hok H) (hb : b < 6) (hi : 0 ≤ i ∧ i ≤ 5) : Sp d 141 [.ref 82, vI i, vI b, vI f] (hp N L B G) (some (vI (envS b f (H 1 b) (H 2 b) (H 3 b / 10) (H 0 1 % 10) i.toNat))) (hp N L B G) := by
  obtain ⟨v0, v1, v2, vk, vv, vf, vr, vs⟩ := hv
  have k3 := ho.2.2.2.1 b hb
  have k6 := ho.2.2.2.2.2.2.1
  refine e141 (by omega) ?_
  have hi' : i = 0 ∨ i = 1 ∨ i = 2 ∨ i = 3 ∨ i = 4 ∨ i = 5 := by omega
  rcases hi' with rfl | rfl | rfl | rfl | rfl | rfl
  all_goals
    simp (disch := omega) only [s141_0, s141_1, s141_36, s141_37, s141_38, s141_39, s141_40, m141_41, s141_44, m141_45, s141_46, s141_47, m141_48, s141_51, m141_52, s141_53, s141_54, m141_55, s141_58, m141_59, s141_60, s141_62, s141_63, s141_64, m141_65, s141_68, s141_70, s141_71, Int.toNat_natCast, Int.toNat_natCast, Nat.reduceAdd, Nat.reduceMul, Int.reduceToNat, Int.reduceAdd, Int.reduceLT, Int.reduceLE, Int.reduceEq, Int.reduceNeg, Int.reduceMul, Int.reduceSub, Nat.reduceSub, reduceIte, ite_true, ite_false, and_true, true_and, and_self, vk b hb, vv b hb, vf b hb, v1]
    rfl
theorem envS_r {b f : Nat} {H : q_Gi} (ho : Hok H) (hb : b < 6) (hf : f < 4) (j : Nat) : 0 ≤ envS b f (H 1 b) (H 2 b) (H 3 b / 10) (H 0 1 % 10) j ∧ envS b f (H 1 b) (H 2 b) (H 3 b / 10) (H 0 1 % 10) j ≤ 1000 := by
  have k1 := ho.2.1 b hb
  have k2 := ho.2.2.1 b hb
  have k3 := ho.2.2.2.1 b hb
  have k6 := ho.2.2.2.2.2.2.1
  unfold envS
  repeat' split
  all_goals omega
/-- the pile, its last one first -/
def pst (G : q_Gi) : List Bool → Prop
  | [] => True
  | b :: r => G 97 r.length = bI (b = true) ∧ pst G r
theorem pst_u {G : q_Gi} {z : Int} : ∀ {bs : List Bool} {n : Nat}, bs.length ≤ n → pst G bs → pst (ug G 97 n z) bs
  | [], _, _, _ => trivial
  | b :: r, n, hn, h => by
    rw [List.length_cons] at hn
    exact ⟨by rw [ug_k (by omega)]; exact h.1, pst_u (by omega) h.2⟩
theorem mtk_n {t : Int} (h : isTest t) : mtk t = t := by
  obtain ⟨h1, h2⟩ := h
  unfold mtk
  rw [if_neg (by omega), if_neg (by omega), if_neg (by omega)]
theorem lp142 {d c b f N L : Nat} {to : Int} {B : q_Bv} {G0 H : q_Gi} (hd : 1 ≤ d) (hv : mv G0 H) (ho : Hok H) (hb : b < 6) (hf : f < 4) (hc : c < 60) (hto : G0 93 c = to) (hto2 : 0 ≤ to ∧ to ≤ 600) {Q : Option Value → q_H → Prop} : ∀ (l : List Int) (p : Nat) (bs : List Bool) (G : q_Gi) (x y z : Value), ((p + l.length : Nat) : Int) = to → okS l bs.length → bs.length ≤ 21 → (∀ k, k < l.length → G0 94 (p + k) = mtk (l.getD k 0)) → pst G bs → (∀ a, a ≠ 97 → G a = G0 a) → nL x = true → nL y = true → nL z = true → (∀ G', (∀ a, a ≠ 97 → G' a = G0 a) → Q (some (vI (bI ((match evalS (envS b f (H 1 b) (H 2 b) (H 3 b / 10) (H 0 1 % 10)) l bs with | b :: _ => b | [] => false) = true)))) (hp N L B G')) → WP d 142 11 [.ref 82, vI c, vI b, vI f, vI (bs.length : Int), vI p, x, y, z] [] (hp N L B G) Q := by
  intro l
  induction l with
  | nil =>
    intro p bs G x y z hp' hk h21 hl hs hG hx hy hz hQ
    have e1 : bs.length = 1 := hk
    match bs, e1 with
    | [bb], _ =>
      have h0 : G 97 0 = bI (bb = true) := hs.1
      have ht : G 93 c = to := by rw [hG 93 (by omega)]; exact hto
      rw [List.length_nil] at hp'
      have hlt : ¬ (p : Int) < to := by omega
      simp (disch := omega) only [s142_11, s142_13, m142_14, s142_17, m142_18, s142_19, s142_22, s142_253, m142_254, s142_257, m142_258, s142_259, s142_259b, Int.toNat_natCast, Int.toNat_natCast, Nat.reduceAdd, Nat.reduceMul, Int.reduceToNat, Int.reduceAdd, Int.reduceLT, Int.reduceLE, Int.reduceEq, Int.reduceNeg, Int.reduceMul, Int.reduceSub, Nat.reduceSub, reduceIte, ite_true, ite_false, and_true, true_and, and_self, ht, hlt, h0]
      exact hQ G hG
  | cons t l ih =>
    intro p bs G x y z hp' hk h21 hl hs hG hx hy hz hQ
    rw [List.length_cons] at hp'
    have ht : G 93 c = to := by rw [hG 93 (by omega)]; exact hto
    have hlt : (p : Int) < to := by omega
    have h94 : G 94 p = mtk t := by
      rw [hG 94 (by omega)]
      exact hl 0 (by rw [List.length_cons]; omega)
    have hl' : ∀ k, k < l.length → G0 94 (p + 1 + k) = mtk (l.getD k 0) := fun k hk => by
      have := hl (k + 1) (by rw [List.length_cons]; omega)
      rw [show p + (k + 1) = p + 1 + k by omega] at this
      exact this
    have hv' := mv_f hv (fun a h1 h2 => hG a (by omega))
    rcases hk with ⟨rfl, hn, hk⟩ | ⟨ht2, hn, hk⟩ | ⟨hT, hn, hk⟩
    · match bs, hn with
      | bb :: r, _ =>
        have e94 : G 94 p = -33 := h94
        have s0 : G 97 r.length = bI (bb = true) := hs.1
        have el : ((r.length + 1 : Nat) : Int) - 1 = (r.length : Int) := by omega
        have hr21 : r.length + 1 ≤ 21 := h21
        rw [s142_11]
        cases bb
        · rw [bI_f (by decide)] at s0
          have := ih (p + 1) (true :: r) (ug G 97 r.length 1) (vI (-33)) y z (by omega) hk h21 hl' ⟨ug_at, pst_u (Nat.le_refl _) hs.2⟩ (fun a ha => by rw [ug_ne ha]; exact hG a ha) rfl hy hz hQ
          simp (disch := first | omega | assumption) only [s142_13, m142_14, s142_17, m142_18, s142_19, s142_22, m142_23, s142_26, m142_28, s142_29, s142_31, s142_33, s142_35, s142_35b, s142_38, m142_39, s142_42, s142_44, s142_45, s142_46, m142_47, s142_50, s142_52, s142_53, m142_54, s142_55, s142_55b, s142_58, s142_59, s142_62, m142_63, m142_63b, s142_64, s142_247, s142_250, Int.toNat_natCast, Int.toNat_natCast, Nat.reduceAdd, Nat.reduceMul, Int.reduceToNat, Int.reduceAdd, Int.reduceLT, Int.reduceLE, Int.reduceEq, Int.reduceNeg, Int.reduceMul, Int.reduceSub, Nat.reduceSub, reduceIte, ite_true, ite_false, and_true, true_and, and_self, ht, hlt, e94, List.length_cons, el, s0]
          exact this
        · rw [bI_t rfl] at s0
          have := ih (p + 1) (false :: r) (ug G 97 r.length 0) (vI (-33)) y z (by omega) hk h21 hl' ⟨ug_at, pst_u (Nat.le_refl _) hs.2⟩ (fun a ha => by rw [ug_ne ha]; exact hG a ha) rfl hy hz hQ
          simp (disch := first | omega | assumption) only [s142_13, m142_14, s142_17, m142_18, s142_19, s142_22, m142_23, s142_26, m142_28, s142_29, s142_31, s142_33, s142_35, s142_35b, s142_38, m142_39, s142_42, s142_44, s142_45, s142_46, m142_47, s142_50, s142_52, s142_53, m142_54, s142_55, s142_55b, s142_58, s142_59, s142_62, m142_63, m142_63b, s142_64, s142_247, s142_250, Int.toNat_natCast, Int.toNat_natCast, Nat.reduceAdd, Nat.reduceMul, Int.reduceToNat, Int.reduceAdd, Int.reduceLT, Int.reduceLE, Int.reduceEq, Int.reduceNeg, Int.reduceMul, Int.reduceSub, Nat.reduceSub, reduceIte, ite_true, ite_false, and_true, true_and, and_self, ht, hlt, e94, List.length_cons, el, s0]
          exact this
    · match bs, hn with
      | bb :: aa :: r, _ =>
        have s0 : G 97 (r.length + 1) = bI (bb = true) := hs.1
        have s1 : G 97 r.length = bI (aa = true) := hs.2.1
        have el : ((r.length + 1 + 1 : Nat) : Int) + -1 = ((r.length + 1 : Nat) : Int) := by omega
        have el2 : ((r.length + 1 : Nat) : Int) - 1 = (r.length : Int) := by omega
        have hr21 : r.length + 1 + 1 ≤ 21 := h21
        rw [s142_11]
        rcases ht2 with rfl | rfl
        · have e94 : G 94 p = -38 := h94
          have key : ∀ z', z' = bI ((aa && bb) = true) → WP d 142 11 [.ref 82, vI c, vI b, vI f, vI ((r.length + 1 : Nat) : Int), vI ((p + 1 : Nat) : Int), vI (-38), y, z] [] (hp N L B (ug G 97 r.length z')) Q := fun z' hz' => ih (p + 1) ((aa && bb) :: r) (ug G 97 r.length z') (vI (-38)) y z (by omega) hk (by rw [List.length_cons]; omega) hl' ⟨by rw [ug_at]; exact hz', pst_u (Nat.le_refl _) hs.2.2⟩ (fun a ha => by rw [ug_ne ha]; exact hG a ha) rfl hy hz hQ
          cases aa <;> cases bb
          all_goals
            simp only [bI, if_true, if_false, Bool.false_eq_true] at s0 s1
            simp (disch := first | omega | assumption) only [s142_13, m142_14, s142_17, m142_18, s142_19, s142_22, m142_23, s142_26, m142_28, s142_29, s142_31, s142_33, s142_35, s142_35b, s142_67, s142_69, s142_72, s142_75, m142_76, s142_79, s142_81, s142_82, s142_83, s142_85, s142_87, s142_87b, s142_90, m142_91, s142_94, s142_96, s142_97, m142_98, s142_99, s142_99b, s142_102, m142_103, s142_106, m142_108, s142_109, s142_109b, s142_112, s142_113, s142_116, s142_117, s142_120, m142_121, s142_124, s142_126, s142_127, m142_128, s142_129, s142_129b, s142_132, m142_133, s142_136, m142_138, s142_139, s142_139b, s142_142, s142_143, s142_146, m142_147, m142_147b, s142_148, s142_247, s142_250, Int.toNat_natCast, Int.toNat_natCast, Nat.reduceAdd, Nat.reduceMul, Int.reduceToNat, Int.reduceAdd, Int.reduceLT, Int.reduceLE, Int.reduceEq, Int.reduceNeg, Int.reduceMul, Int.reduceSub, Nat.reduceSub, reduceIte, ite_true, ite_false, and_true, true_and, and_self, ht, hlt, e94, List.length_cons, el, el2, s0, s1]
            exact key _ rfl
        · have e94 : G 94 p = -124 := h94
          have key : ∀ z', z' = bI ((aa || bb) = true) → WP d 142 11 [.ref 82, vI c, vI b, vI f, vI ((r.length + 1 : Nat) : Int), vI ((p + 1 : Nat) : Int), vI (-124), y, z] [] (hp N L B (ug G 97 r.length z')) Q := fun z' hz' => ih (p + 1) ((aa || bb) :: r) (ug G 97 r.length z') (vI (-124)) y z (by omega) hk (by rw [List.length_cons]; omega) hl' ⟨by rw [ug_at]; exact hz', pst_u (Nat.le_refl _) hs.2.2⟩ (fun a ha => by rw [ug_ne ha]; exact hG a ha) rfl hy hz hQ
          cases aa <;> cases bb
          all_goals
            simp only [bI, if_true, if_false, Bool.false_eq_true] at s0 s1
            simp (disch := first | omega | assumption) only [s142_13, m142_14, s142_17, m142_18, s142_19, s142_22, m142_23, s142_26, m142_28, s142_29, s142_31, s142_33, s142_35, s142_35b, s142_67, s142_69, s142_72, s142_75, m142_76, s142_79, s142_81, s142_82, s142_83, s142_85, s142_87, s142_87b, s142_90, m142_91, s142_94, s142_96, s142_97, m142_98, s142_99, s142_99b, s142_102, m142_103, s142_106, m142_108, s142_109, s142_109b, s142_112, s142_113, s142_116, s142_117, s142_120, m142_121, s142_124, s142_126, s142_127, m142_128, s142_129, s142_129b, s142_132, m142_133, s142_136, m142_138, s142_139, s142_139b, s142_142, s142_143, s142_146, m142_147, m142_147b, s142_148, s142_247, s142_250, Int.toNat_natCast, Int.toNat_natCast, Nat.reduceAdd, Nat.reduceMul, Int.reduceToNat, Int.reduceAdd, Int.reduceLT, Int.reduceLE, Int.reduceEq, Int.reduceNeg, Int.reduceMul, Int.reduceSub, Nat.reduceSub, reduceIte, ite_true, ite_false, and_true, true_and, and_self, ht, hlt, e94, List.length_cons, el, el2, s0, s1]
            exact key _ rfl
    · have e94 : G 94 p = t := by rw [h94, mtk_n hT]
      obtain ⟨t1, t2⟩ := hT
      have hb21 : bs.length ≤ 20 := hn
      have h141 := sp141 (d := d) (b := b) (f := f) (N := N) (L := L) (B := B) (i := t / 1000) hd hv' ho hb (by omega)
      have he := envS_r (f := f) ho hb hf (t / 1000).toNat
      have n33 : ¬ t = -33 := by omega
      have nlt : ¬ t < 0 := by omega
      have n1 : ¬ t = -3 := by omega
      have n2 : ¬ t = -1 := by omega
      have n3 : ¬ t = -2 := by omega
      have e3 : evalS (envS b f (H 1 b) (H 2 b) (H 3 b / 10) (H 0 1 % 10)) (t :: l) bs = evalS (envS b f (H 1 b) (H 2 b) (H 3 b / 10) (H 0 1 % 10)) l (testS (envS b f (H 1 b) (H 2 b) (H 3 b / 10) (H 0 1 % 10)) t :: bs) := by simp only [evalS, stepS, n1, n2, n3, if_false]
      rw [e3] at hQ
      have key : ∀ z', z' = bI (testS (envS b f (H 1 b) (H 2 b) (H 3 b / 10) (H 0 1 % 10)) t = true) → WP d 142 11 [.ref 82, vI c, vI b, vI f, vI ((bs.length : Int) + 1), vI ((p : Int) + 1), vI t, vI (envS b f (H 1 b) (H 2 b) (H 3 b / 10) (H 0 1 % 10) (t / 1000).toNat), vI (t / 100 % 10)] [] (hp N L B (ug G 97 bs.length z')) Q := fun z' hz' => ih (p + 1) (testS (envS b f (H 1 b) (H 2 b) (H 3 b / 10) (H 0 1 % 10)) t :: bs) (ug G 97 bs.length z') (vI t) _ _ (by omega) hk (by rw [List.length_cons]; omega) hl' ⟨by rw [ug_at]; exact hz', pst_u (Nat.le_refl _) hs⟩ (fun a ha => by rw [ug_ne ha]; exact hG a ha) rfl rfl rfl hQ
      clear ih
      rw [s142_11]
      by_cases c0 : t / 100 % 10 = 0
      · by_cases c1 : envS b f (H 1 b) (H 2 b) (H 3 b / 10) (H 0 1 % 10) (t / 1000).toNat < t % 100
        · simp (disch := first | omega | assumption) only [s142_13, m142_14, s142_17, m142_18, s142_19, s142_22, m142_23, s142_26, m142_28, s142_29, s142_31, s142_33, s142_35, s142_35b, s142_67, s142_69, s142_151, s142_152, s142_154, s142_157, s142_158, s142_159, s142_163, s142_165, s142_167, s142_169, s142_170, s142_172, s142_173, s142_175, m142_176, s142_179, s142_181, s142_183, s142_183b, s142_186, s142_188, s142_190, s142_192, s142_193, s142_196, s142_197, s142_200, s142_201, s142_204, s142_206, s142_207, s142_207b, s142_210, s142_212, s142_214, s142_216, s142_217, s142_217b, s142_220, s142_221, s142_224, s142_225, s142_228, s142_230, s142_232, s142_234, s142_235, s142_238, s142_239, s142_242, m142_243, m142_243b, s142_244, s142_247, s142_250, Int.toNat_natCast, Int.toNat_natCast, Nat.reduceAdd, Nat.reduceMul, Int.reduceToNat, Int.reduceAdd, Int.reduceLT, Int.reduceLE, Int.reduceEq, Int.reduceNeg, Int.reduceMul, Int.reduceSub, Nat.reduceSub, reduceIte, ite_true, ite_false, and_true, true_and, and_self, ht, hlt, e94, n33, nlt, m142_160 h141, c0, c1]
          rw [c0] at key
          refine key _ ?_
          unfold testS; rw [if_pos c0, bI_t (decide_eq_true c1)]
        · simp (disch := first | omega | assumption) only [s142_13, m142_14, s142_17, m142_18, s142_19, s142_22, m142_23, s142_26, m142_28, s142_29, s142_31, s142_33, s142_35, s142_35b, s142_67, s142_69, s142_151, s142_152, s142_154, s142_157, s142_158, s142_159, s142_163, s142_165, s142_167, s142_169, s142_170, s142_172, s142_173, s142_175, m142_176, s142_179, s142_181, s142_183, s142_183b, s142_186, s142_188, s142_190, s142_192, s142_193, s142_196, s142_197, s142_200, s142_201, s142_204, s142_206, s142_207, s142_207b, s142_210, s142_212, s142_214, s142_216, s142_217, s142_217b, s142_220, s142_221, s142_224, s142_225, s142_228, s142_230, s142_232, s142_234, s142_235, s142_238, s142_239, s142_242, m142_243, m142_243b, s142_244, s142_247, s142_250, Int.toNat_natCast, Int.toNat_natCast, Nat.reduceAdd, Nat.reduceMul, Int.reduceToNat, Int.reduceAdd, Int.reduceLT, Int.reduceLE, Int.reduceEq, Int.reduceNeg, Int.reduceMul, Int.reduceSub, Nat.reduceSub, reduceIte, ite_true, ite_false, and_true, true_and, and_self, ht, hlt, e94, n33, nlt, m142_160 h141, c0, c1]
          rw [c0] at key
          refine key _ ?_
          unfold testS; rw [if_pos c0, bI_f (by simpa using c1)]
      by_cases c2 : t / 100 % 10 = 1
      · by_cases c1 : envS b f (H 1 b) (H 2 b) (H 3 b / 10) (H 0 1 % 10) (t / 1000).toNat = t % 100
        · have c1' := eq_true c1
          simp (disch := first | omega | assumption) only [s142_13, m142_14, s142_17, m142_18, s142_19, s142_22, m142_23, s142_26, m142_28, s142_29, s142_31, s142_33, s142_35, s142_35b, s142_67, s142_69, s142_151, s142_152, s142_154, s142_157, s142_158, s142_159, s142_163, s142_165, s142_167, s142_169, s142_170, s142_172, s142_173, s142_175, m142_176, s142_179, s142_181, s142_183, s142_183b, s142_186, s142_188, s142_190, s142_192, s142_193, s142_196, s142_197, s142_200, s142_201, s142_204, s142_206, s142_207, s142_207b, s142_210, s142_212, s142_214, s142_216, s142_217, s142_217b, s142_220, s142_221, s142_224, s142_225, s142_228, s142_230, s142_232, s142_234, s142_235, s142_238, s142_239, s142_242, m142_243, m142_243b, s142_244, s142_247, s142_250, Int.toNat_natCast, Int.toNat_natCast, Nat.reduceAdd, Nat.reduceMul, Int.reduceToNat, Int.reduceAdd, Int.reduceLT, Int.reduceLE, Int.reduceEq, Int.reduceNeg, Int.reduceMul, Int.reduceSub, Nat.reduceSub, reduceIte, ite_true, ite_false, and_true, true_and, and_self, ht, hlt, e94, n33, nlt, m142_160 h141, c2, c1', if_true]
          rw [c2] at key
          refine key _ ?_
          unfold testS; rw [if_neg c0, if_pos c2, bI_t (decide_eq_true c1)]
        · have c1' := eq_false c1
          simp (disch := first | omega | assumption) only [s142_13, m142_14, s142_17, m142_18, s142_19, s142_22, m142_23, s142_26, m142_28, s142_29, s142_31, s142_33, s142_35, s142_35b, s142_67, s142_69, s142_151, s142_152, s142_154, s142_157, s142_158, s142_159, s142_163, s142_165, s142_167, s142_169, s142_170, s142_172, s142_173, s142_175, m142_176, s142_179, s142_181, s142_183, s142_183b, s142_186, s142_188, s142_190, s142_192, s142_193, s142_196, s142_197, s142_200, s142_201, s142_204, s142_206, s142_207, s142_207b, s142_210, s142_212, s142_214, s142_216, s142_217, s142_217b, s142_220, s142_221, s142_224, s142_225, s142_228, s142_230, s142_232, s142_234, s142_235, s142_238, s142_239, s142_242, m142_243, m142_243b, s142_244, s142_247, s142_250, Int.toNat_natCast, Int.toNat_natCast, Nat.reduceAdd, Nat.reduceMul, Int.reduceToNat, Int.reduceAdd, Int.reduceLT, Int.reduceLE, Int.reduceEq, Int.reduceNeg, Int.reduceMul, Int.reduceSub, Nat.reduceSub, reduceIte, ite_true, ite_false, and_true, true_and, and_self, ht, hlt, e94, n33, nlt, m142_160 h141, c2, c1', if_false]
          rw [c2] at key
          refine key _ ?_
          unfold testS; rw [if_neg c0, if_pos c2, bI_f (by simpa using c1)]
      · by_cases c1 : t % 100 < envS b f (H 1 b) (H 2 b) (H 3 b / 10) (H 0 1 % 10) (t / 1000).toNat
        · simp (disch := first | omega | assumption) only [s142_13, m142_14, s142_17, m142_18, s142_19, s142_22, m142_23, s142_26, m142_28, s142_29, s142_31, s142_33, s142_35, s142_35b, s142_67, s142_69, s142_151, s142_152, s142_154, s142_157, s142_158, s142_159, s142_163, s142_165, s142_167, s142_169, s142_170, s142_172, s142_173, s142_175, m142_176, s142_179, s142_181, s142_183, s142_183b, s142_186, s142_188, s142_190, s142_192, s142_193, s142_196, s142_197, s142_200, s142_201, s142_204, s142_206, s142_207, s142_207b, s142_210, s142_212, s142_214, s142_216, s142_217, s142_217b, s142_220, s142_221, s142_224, s142_225, s142_228, s142_230, s142_232, s142_234, s142_235, s142_238, s142_239, s142_242, m142_243, m142_243b, s142_244, s142_247, s142_250, Int.toNat_natCast, Int.toNat_natCast, Nat.reduceAdd, Nat.reduceMul, Int.reduceToNat, Int.reduceAdd, Int.reduceLT, Int.reduceLE, Int.reduceEq, Int.reduceNeg, Int.reduceMul, Int.reduceSub, Nat.reduceSub, reduceIte, ite_true, ite_false, and_true, true_and, and_self, ht, hlt, e94, n33, nlt, m142_160 h141, c0, c2, c1]
          refine key _ ?_
          unfold testS; rw [if_neg c0, if_neg c2, bI_t (decide_eq_true c1)]
        · simp (disch := first | omega | assumption) only [s142_13, m142_14, s142_17, m142_18, s142_19, s142_22, m142_23, s142_26, m142_28, s142_29, s142_31, s142_33, s142_35, s142_35b, s142_67, s142_69, s142_151, s142_152, s142_154, s142_157, s142_158, s142_159, s142_163, s142_165, s142_167, s142_169, s142_170, s142_172, s142_173, s142_175, m142_176, s142_179, s142_181, s142_183, s142_183b, s142_186, s142_188, s142_190, s142_192, s142_193, s142_196, s142_197, s142_200, s142_201, s142_204, s142_206, s142_207, s142_207b, s142_210, s142_212, s142_214, s142_216, s142_217, s142_217b, s142_220, s142_221, s142_224, s142_225, s142_228, s142_230, s142_232, s142_234, s142_235, s142_238, s142_239, s142_242, m142_243, m142_243b, s142_244, s142_247, s142_250, Int.toNat_natCast, Int.toNat_natCast, Nat.reduceAdd, Nat.reduceMul, Int.reduceToNat, Int.reduceAdd, Int.reduceLT, Int.reduceLE, Int.reduceEq, Int.reduceNeg, Int.reduceMul, Int.reduceSub, Nat.reduceSub, reduceIte, ite_true, ite_false, and_true, true_and, and_self, ht, hlt, e94, n33, nlt, m142_160 h141, c0, c2, c1]
          refine key _ ?_
          unfold testS; rw [if_neg c0, if_neg c2, bI_f (by simpa using c1)]
