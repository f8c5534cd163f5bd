/-! the model: liking, fills, of, told -/
theorem sp142 {d c b f a N L : Nat} {l : List Int} {B : q_Bv} {G H : q_Gi} (hd : 2 ≤ d) (hv : mv G H) (ho : Hok H) (hb : b < 6) (hf : f < 4) (hc : c < 60) (h92 : G 92 c = (a : Int)) (h93 : G 93 c = ((a + l.length : Nat) : Int)) (h600 : a + l.length ≤ 600) (h94 : ∀ k, k < l.length → G 94 (a + k) = mtk (l.getD k 0)) (hk : okS l 0) : ∃ G', Sp d 142 [.ref 82, vI c, vI b, vI f] (hp N L B G) (some (vI (bI (holdsS (envS b f (H 1 b) (H 2 b) (H 3 b / 10) (H 0 1 % 10)) l = true)))) (hp N L B G') ∧ ∀ a, a ≠ 97 → G' a = G a := by
  obtain ⟨r1, X1, hS, G', hr, hX, q⟩ := E142 (d := d) (X := hp N L B G) (z1 := (c : Int)) (z2 := (b : Int)) (z3 := (f : Int)) (Q := fun r1 X1 => ∃ G', r1 = some (vI (bI (holdsS (envS b f (H 1 b) (H 2 b) (H 3 b / 10) (H 0 1 % 10)) l = true))) ∧ X1 = hp N L B G' ∧ ∀ a, a ≠ 97 → G' a = G a) (by omega) (by
    simp (disch := omega) only [s142_0, s142_1, s142_3, m142_4, s142_7, m142_8, s142_9, Int.toNat_natCast, Int.toNat_natCast, Nat.reduceAdd, Nat.reduceMul, Int.reduceToNat, Int.reduceAdd, Int.reduceLT, Int.reduceLE, Int.reduceEq, Int.reduceNeg, Int.reduceMul, Int.reduceSub, Nat.reduceSub, reduceIte, ite_true, ite_false, and_true, true_and, and_self, h92]
    exact lp142 (d := d - 1) (by omega) hv ho hb hf hc h93 (by omega) l a [] G .null .null .null rfl hk (by decide) h94 trivial (fun _ _ => rfl) rfl rfl rfl (fun G' h => ⟨G', rfl, rfl, h⟩))
  exact ⟨G', by rw [hr, hX] at hS; exact hS, q⟩
def clR : List (Int × Int × List Int) → List (Int × List Int)
  | [] => []
  | r :: rc => if r.1 = 0 then (r.2.1, r.2.2) :: clR rc else if r.1 = 1 then (-r.2.1, r.2.2) :: clR rc else clR rc
theorem clR_ok : ∀ (rc : List (Int × Int × List Int)), (∀ r, r ∈ rc → rcOK r) → ∀ c, c ∈ clR rc → (-99 ≤ c.1 ∧ c.1 ≤ 99) ∧ okS c.2 0
  | [], _, c, hc => absurd hc List.not_mem_nil
  | r :: rc, h, c, hc => by
    have hr := h r List.mem_cons_self
    have ih := clR_ok rc (fun r' h' => h r' (List.mem_cons_of_mem _ h'))
    unfold clR at hc
    by_cases c0 : r.1 = 0
    · rw [if_pos c0] at hc
      rcases List.mem_cons.mp hc with rfl | hc
      · exact ⟨by have := hr.2.1; simp only []; omega, hr.2.2 (by omega)⟩
      · exact ih c hc
    rw [if_neg c0] at hc
    by_cases c1 : r.1 = 1
    · rw [if_pos c1] at hc
      rcases List.mem_cons.mp hc with rfl | hc
      · exact ⟨by have := hr.2.1; simp only []; omega, hr.2.2 (by omega)⟩
      · exact ih c hc
    · rw [if_neg c1] at hc; exact ih c hc
theorem lp143 {d b f N L b0 : Nat} {the n : Int} {B : q_Bv} {G0 H : q_Gi} (hd : 2 ≤ d) (hv : mv G0 H) (ho : Hok H) (hb : b < 6) (hf : f < 4) (h9 : G0 82 9 = the) (hB : (the = -1 ∧ b0 = 0 ∧ n = 0) ∨ ∃ f : Nat, f < 6 ∧ the = (f : Int) ∧ b0 = 10 * f ∧ G0 89 f = n) (hn : 0 ≤ n ∧ n ≤ 60) {Q : Option Value → q_H → Prop} : ∀ (rc : List (Int × Int × List Int)) (i : Nat) (x : Int) (G : q_Gi), ((i : Int) + rc.length = b0 + n) → i + rc.length ≤ 60 → rc.length ≤ 10 → (-(1000 + 99 * (10 - (rc.length : Int))) ≤ x ∧ x ≤ 1000 + 99 * (10 - (rc.length : Int))) → (∀ k, k < rc.length → rcW G0 (i + k) (rc.getD k rc0)) → (∀ r, r ∈ rc → rcOK r) → (∀ a, a ≠ 97 → G a = G0 a) → (∀ G', (∀ a, a ≠ 97 → G' a = G0 a) → Q (some (vI (max 0 (sumS (envS b f (H 1 b) (H 2 b) (H 3 b / 10) (H 0 1 % 10)) (clR rc) x)))) (hp N L B G')) → WP d 143 12 [.ref 82, vI b, vI f, vI x, vI i] [] (hp N L B G) Q := by
  intro rc
  induction rc with
  | nil =>
    intro i x G hi h60 h10 hx hr hk hG hQ
    have h139 := sp139 (d := d) (N := N) (L := L) (B := B) (G := G) (the := the) (b0 := b0) (n := n) (by omega) (by rw [hG 82 (by omega)]; exact h9) (by rw [hG 89 (by omega)]; exact hB)
    rw [List.length_nil] at hi hx
    have h1 : ¬ (i : Int) < (b0 : Int) + n := by omega
    have h111 := sp111 (d := d) (z := x) (X := hp N L B G) (by omega) (by omega)
    simp (disch := omega) only [s143_12, s143_14, s143_18, s143_83, s143_84, s143_88, Int.toNat_natCast, Int.toNat_natCast, Nat.reduceAdd, Nat.reduceMul, Int.reduceToNat, Int.reduceAdd, Int.reduceLT, Int.reduceLE, Int.reduceEq, Int.reduceNeg, Int.reduceMul, Int.reduceSub, Nat.reduceSub, reduceIte, ite_true, ite_false, and_true, true_and, and_self, m143_15 h139, h1, m143_85 h111]
    exact hQ G hG
  | cons r rc ih =>
    intro i x G hi h60 h10 hx hr hk hG hQ
    have h139 := sp139 (d := d) (N := N) (L := L) (B := B) (G := G) (the := the) (b0 := b0) (n := n) (by omega) (by rw [hG 82 (by omega)]; exact h9) (by rw [hG 89 (by omega)]; exact hB)
    rw [List.length_cons] at hi h60 h10 hx
    have h1 : (i : Int) < (b0 : Int) + n := by omega
    have h0 := hr 0 (by rw [List.length_cons]; omega)
    have h90 : G 90 i = r.1 := by rw [hG 90 (by omega)]; exact h0.1
    have h91 : ∀ G' : q_Gi, (∀ a, a ≠ 97 → G' a = G0 a) → G' 91 i = r.2.1 ∧ G' 90 i = r.1 := fun G' h => ⟨by rw [h 91 (by omega)]; exact h0.2.1, by rw [h 90 (by omega)]; exact h0.1⟩
    have hrk := hk r List.mem_cons_self
    obtain ⟨k1, k2, k3⟩ := hrk
    have hr' : ∀ k, k < rc.length → rcW G0 (i + 1 + k) (rc.getD k rc0) := fun k hk => by
      have := hr (k + 1) (by rw [List.length_cons]; omega)
      rw [show i + (k + 1) = i + 1 + k by omega] at this
      exact this
    have hk' : ∀ r', r' ∈ rc → rcOK r' := fun r' h' => hk r' (List.mem_cons_of_mem _ h')
    by_cases cw : r.1 ≤ 1
    · have cw2 : ¬ 1 < r.1 := by omega
      obtain ⟨a, g92, g93, g600, g94⟩ := h0.2.2 cw
      obtain ⟨G1, h142, f1⟩ := sp142 (d := d) (c := i) (b := b) (f := f) (a := a) (l := r.2.2) (N := N) (L := L) (B := B) (G := G) (H := H) hd (mv_f hv (fun a _ _ => hG a (by omega))) ho hb hf (by omega) (by rw [hG 92 (by omega)]; exact g92) (by rw [hG 93 (by omega)]; exact g93) g600 (fun k hk => by rw [hG 94 (by omega)]; exact g94 k hk) (k3 cw)
      have f1' : ∀ a, a ≠ 97 → G1 a = G0 a := fun a ha => by rw [f1 a ha, hG a ha]
      obtain ⟨g91, g90⟩ := h91 G1 f1'
      by_cases ch : holdsS (envS b f (H 1 b) (H 2 b) (H 3 b / 10) (H 0 1 % 10)) r.2.2 = true
      · rw [bI_t ch] at h142
        by_cases c0 : r.1 = 0
        · have ec : clR (r :: rc) = (r.2.1, r.2.2) :: clR rc := by rw [show clR (r :: rc) = if r.1 = 0 then (r.2.1, r.2.2) :: clR rc else if r.1 = 1 then (-r.2.1, r.2.2) :: clR rc else clR rc from rfl, if_pos c0]
          rw [ec] at hQ
          unfold sumS at hQ
          rw [if_pos ch] at hQ
          have := ih (i + 1) (x + r.2.1) G1 (by omega) (by omega) (by omega) (by omega) hr' hk' f1' hQ
          rw [s143_12]
          simp (disch := omega) only [s143_14, s143_18, s143_21, m143_22, s143_25, m143_27, s143_28, s143_29, s143_32, s143_33, s143_35, s143_36, s143_40, s143_40b, s143_43, s143_46, s143_47, m143_48, s143_51, m143_53, s143_54, s143_54b, s143_57, m143_58, s143_61, m143_63, s143_64, s143_67, m143_68, s143_71, m143_73, s143_74, s143_75, s143_76, s143_77, s143_80, Int.toNat_natCast, Int.toNat_natCast, Nat.reduceAdd, Nat.reduceMul, Int.reduceToNat, Int.reduceAdd, Int.reduceLT, Int.reduceLE, Int.reduceEq, Int.reduceNeg, Int.reduceMul, Int.reduceSub, Nat.reduceSub, reduceIte, ite_true, ite_false, and_true, true_and, and_self, m143_15 h139, h1, h90, cw2, cw, m143_37 h142, g90, g91, c0]
          exact this
        · have c1 : r.1 = 1 := by omega
          have ec : clR (r :: rc) = (-r.2.1, r.2.2) :: clR rc := by rw [show clR (r :: rc) = if r.1 = 0 then (r.2.1, r.2.2) :: clR rc else if r.1 = 1 then (-r.2.1, r.2.2) :: clR rc else clR rc from rfl, if_neg c0, if_pos c1]
          rw [ec] at hQ
          unfold sumS at hQ
          rw [if_pos ch] at hQ
          have := ih (i + 1) (x + -r.2.1) G1 (by omega) (by omega) (by omega) (by omega) hr' hk' f1' hQ
          rw [s143_12]
          simp (disch := omega) only [s143_14, s143_18, s143_21, m143_22, s143_25, m143_27, s143_28, s143_29, s143_32, s143_33, s143_35, s143_36, s143_40, s143_40b, s143_43, s143_46, s143_47, m143_48, s143_51, m143_53, s143_54, s143_54b, s143_57, m143_58, s143_61, m143_63, s143_64, s143_67, m143_68, s143_71, m143_73, s143_74, s143_75, s143_76, s143_77, s143_80, Int.toNat_natCast, Int.toNat_natCast, Nat.reduceAdd, Nat.reduceMul, Int.reduceToNat, Int.reduceAdd, Int.reduceLT, Int.reduceLE, Int.reduceEq, Int.reduceNeg, Int.reduceMul, Int.reduceSub, Nat.reduceSub, reduceIte, ite_true, ite_false, and_true, true_and, and_self, m143_15 h139, h1, h90, m143_37 h142, g90, g91, c1]
          exact this
      · rw [bI_f ch] at h142
        have hQ' : ∀ G' : q_Gi, (∀ a, a ≠ 97 → G' a = G0 a) → Q (some (vI (max 0 (sumS (envS b f (H 1 b) (H 2 b) (H 3 b / 10) (H 0 1 % 10)) (clR rc) x)))) (hp N L B G') := by
          intro G' h
          have := hQ G' h
          by_cases c0 : r.1 = 0
          · have ec : clR (r :: rc) = (r.2.1, r.2.2) :: clR rc := by rw [show clR (r :: rc) = if r.1 = 0 then (r.2.1, r.2.2) :: clR rc else if r.1 = 1 then (-r.2.1, r.2.2) :: clR rc else clR rc from rfl, if_pos c0]
            rw [ec] at this
            unfold sumS at this
            rw [if_neg ch] at this
            exact this
          · have ec : clR (r :: rc) = (-r.2.1, r.2.2) :: clR rc := by rw [show clR (r :: rc) = if r.1 = 0 then (r.2.1, r.2.2) :: clR rc else if r.1 = 1 then (-r.2.1, r.2.2) :: clR rc else clR rc from rfl, if_neg c0, if_pos (by omega)]
            rw [ec] at this
            unfold sumS at this
            rw [if_neg ch] at this
            exact this
        have := ih (i + 1) x G1 (by omega) (by omega) (by omega) (by omega) hr' hk' f1' hQ'
        rw [s143_12]
        simp (disch := omega) only [s143_14, s143_18, s143_21, m143_22, s143_25, m143_27, s143_28, s143_29, s143_32, s143_33, s143_35, s143_36, s143_40, s143_40b, s143_43, s143_46, s143_47, m143_48, s143_51, m143_53, s143_54, s143_54b, s143_57, m143_58, s143_61, m143_63, s143_64, s143_67, m143_68, s143_71, m143_73, s143_74, s143_75, s143_76, s143_77, s143_80, Int.toNat_natCast, Int.toNat_natCast, Nat.reduceAdd, Nat.reduceMul, Int.reduceToNat, Int.reduceAdd, Int.reduceLT, Int.reduceLE, Int.reduceEq, Int.reduceNeg, Int.reduceMul, Int.reduceSub, Nat.reduceSub, reduceIte, ite_true, ite_false, and_true, true_and, and_self, m143_15 h139, h1, h90, cw2, cw, m143_37 h142]
        exact this
    · have cw2 : 1 < r.1 := by omega
      have ec : clR (r :: rc) = clR rc := by rw [show clR (r :: rc) = if r.1 = 0 then (r.2.1, r.2.2) :: clR rc else if r.1 = 1 then (-r.2.1, r.2.2) :: clR rc else clR rc from rfl, if_neg (by omega), if_neg (by omega)]
      rw [ec] at hQ
      have := ih (i + 1) x G (by omega) (by omega) (by omega) (by omega) hr' hk' hG hQ
      rw [s143_12]
      simp (disch := omega) only [s143_14, s143_18, s143_21, m143_22, s143_25, m143_27, s143_28, s143_29, s143_32, s143_33, s143_35, s143_36, s143_40, s143_40b, s143_43, s143_46, s143_47, m143_48, s143_51, m143_53, s143_54, s143_54b, s143_57, m143_58, s143_61, m143_63, s143_64, s143_67, m143_68, s143_71, m143_73, s143_74, s143_75, s143_76, s143_77, s143_80, Int.toNat_natCast, Int.toNat_natCast, Nat.reduceAdd, Nat.reduceMul, Int.reduceToNat, Int.reduceAdd, Int.reduceLT, Int.reduceLE, Int.reduceEq, Int.reduceNeg, Int.reduceMul, Int.reduceSub, Nat.reduceSub, reduceIte, ite_true, ite_false, and_true, true_and, and_self, m143_15 h139, h1, h90, cw2, cw]
      exact this
theorem sp143 {d b f N L : Nat} {the : Int} {rc : List (Int × Int × List Int)} {B : q_Bv} {G H : q_Gi} (hd : 3 ≤ d) (hv : mv G H) (ho : Hok H) (hb : b < 6) (hf : f < 4) (h9 : G 82 9 = the) (hm : mu G the rc) : ∃ G', Sp d 143 [.ref 82, vI b, vI f] (hp N L B G) (some (vI (likingS (envS b f (H 1 b) (H 2 b) (H 3 b / 10) (H 0 1 % 10)) (5 * ((f : Int) + 1)) (clR rc)))) (hp N L B G') ∧ ∀ a, a ≠ 97 → G' a = G a := by
  obtain ⟨b0, q1, q2, q3, q4, q5⟩ := hm
  have h138 := sp138 (d := d - 1) (N := N) (L := L) (B := B) (by omega) h9 (mu_b q3)
  obtain ⟨r1, X1, hS, G', hr, hX, q⟩ := E143 (d := d) (X := hp N L B G) (z1 := (b : Int)) (z2 := (f : Int)) (Q := fun r1 X1 => ∃ G', r1 = some (vI (likingS (envS b f (H 1 b) (H 2 b) (H 3 b / 10) (H 0 1 % 10)) (5 * ((f : Int) + 1)) (clR rc))) ∧ X1 = hp N L B G' ∧ ∀ a, a ≠ 97 → G' a = G a) (by omega) (by
    simp (disch := omega) only [s143_0, s143_1, s143_2, s143_3, s143_4, s143_5, s143_6, s143_10, Int.toNat_natCast, Int.toNat_natCast, Nat.reduceAdd, Nat.reduceMul, Int.reduceToNat, Int.reduceAdd, Int.reduceLT, Int.reduceLE, Int.reduceEq, Int.reduceNeg, Int.reduceMul, Int.reduceSub, Nat.reduceSub, reduceIte, ite_true, ite_false, and_true, true_and, and_self, m143_7 h138]
    exact lp143 (d := d - 1) (n := (rc.length : Int)) (by omega) hv ho hb hf h9 (mu_b q3) (by omega) rc b0 (5 * ((f : Int) + 1)) G rfl q1 q2 (by omega) q4 q5 (fun _ _ => rfl) (fun G' h => ⟨G', rfl, rfl, h⟩))
  exact ⟨G', by rw [hr, hX] at hS; exact hS, q⟩
theorem liking_r {E : Nat → Int} {cl : List (Int × List Int)} {f : Int} (h10 : cl.length ≤ 10) (hk : ∀ c, c ∈ cl → (-99 ≤ c.1 ∧ c.1 ≤ 99) ∧ okS c.2 0) (hf : 0 ≤ f ∧ f ≤ 1000) : 0 ≤ likingS E f cl ∧ likingS E f cl ≤ 2000 := by
  have := sumS_r E cl f hk
  unfold likingS
  omega
theorem clR_l : ∀ (rc : List (Int × Int × List Int)), (clR rc).length ≤ rc.length
  | [] => Nat.le_refl _
  | r :: rc => by
    have := clR_l rc
    unfold clR
    by_cases c0 : r.1 = 0
    · rw [if_pos c0, List.length_cons, List.length_cons]; omega
    · rw [if_neg c0]
      by_cases c1 : r.1 = 1
      · rw [if_pos c1, List.length_cons, List.length_cons]; omega
      · rw [if_neg c1, List.length_cons]; omega
theorem sp144 {d b f N L : Nat} {the : Int} {rc : List (Int × Int × List Int)} {B : q_Bv} {G H : q_Gi} (hd : 4 ≤ d) (hv : mv G H) (ho : Hok H) (hb : b < 6) (hf : f < 4) (h9 : G 82 9 = the) (hm : mu G the rc) : ∃ G', Sp d 144 [.ref 82, vI b, vI f] (hp N L B G) (some (vI (fillS (clR rc) H b f (H 3 b)))) (hp N L B G') ∧ ∀ a, a ≠ 97 → G' a = G a := by
  obtain ⟨G1, h143, f1⟩ := sp143 (d := d - 1) (N := N) (L := L) (B := B) (by omega) hv ho hb hf h9 hm
  refine ⟨G1, ?_, f1⟩
  have hv' := mv_f hv (fun a _ _ => f1 a (by omega))
  obtain ⟨v0, v1, v2, vk, vv, vf, vr, vs⟩ := hv'
  have k1 := ho.2.1 b hb
  have k2 := ho.2.2.1 b hb
  have hl : 0 ≤ likingS (envS b f (H 1 b) (H 2 b) (H 3 b / 10) (H 0 1 % 10)) (5 * ((f : Int) + 1)) (clR rc) ∧ likingS (envS b f (H 1 b) (H 2 b) (H 3 b / 10) (H 0 1 % 10)) (5 * ((f : Int) + 1)) (clR rc) ≤ 2000 := by
    obtain ⟨b0, q1, q2, q3, q4, q5⟩ := hm
    exact liking_r (by have := clR_l rc; omega) (clR_ok rc q5) (by omega)
  unfold fillS fillsS
  generalize likingS (envS b f (H 1 b) (H 2 b) (H 3 b / 10) (H 0 1 % 10)) (5 * ((f : Int) + 1)) (clR rc) = z at hl h143 ⊢
  refine e144 (by omega) ?_
  have hk : H 1 b = 0 ∨ H 1 b = 1 ∨ H 1 b = 2 ∨ H 1 b = 3 ∨ H 1 b = 4 ∨ H 1 b = 5 ∨ H 1 b = 6 := by omega
  rcases hk with hk | hk | hk | hk | hk | hk | hk
  · simp (disch := omega) only [s144_0, s144_1, s144_2, s144_6, s144_7, m144_8, s144_11, m144_12, s144_13, s144_44, s144_45, s144_46, s144_47, s144_48, s144_49, s144_50, s144_53, s144_54, s144_57, s144_58, s144_59, s144_60, s144_61, s144_62, s144_63, s144_64, m144_65, s144_68, m144_69, s144_70, s144_71, s144_72, s144_73, Int.toNat_natCast, Int.toNat_natCast, Nat.reduceAdd, Nat.reduceMul, Int.reduceToNat, Int.reduceAdd, Int.reduceLT, Int.reduceLE, Int.reduceEq, Int.reduceNeg, Int.reduceMul, Int.reduceSub, Nat.reduceSub, reduceIte, ite_true, ite_false, and_true, true_and, and_self, m144_3 h143, vk b hb, vv b hb, hk]
  · simp (disch := omega) only [s144_0, s144_1, s144_2, s144_6, s144_7, m144_8, s144_11, m144_12, s144_13, s144_44, s144_45, s144_46, s144_47, s144_48, s144_49, s144_50, s144_53, s144_54, s144_57, s144_58, s144_59, s144_60, s144_61, s144_62, s144_63, s144_64, m144_65, s144_68, m144_69, s144_70, s144_71, s144_72, s144_73, Int.toNat_natCast, Int.toNat_natCast, Nat.reduceAdd, Nat.reduceMul, Int.reduceToNat, Int.reduceAdd, Int.reduceLT, Int.reduceLE, Int.reduceEq, Int.reduceNeg, Int.reduceMul, Int.reduceSub, Nat.reduceSub, reduceIte, ite_true, ite_false, and_true, true_and, and_self, m144_3 h143, vk b hb, vv b hb, hk]
  · simp (disch := omega) only [s144_0, s144_1, s144_2, s144_6, s144_7, m144_8, s144_11, m144_12, s144_13, s144_44, s144_45, s144_46, s144_47, s144_48, s144_49, s144_50, s144_53, s144_54, s144_57, s144_58, s144_59, s144_60, s144_61, s144_62, s144_63, s144_64, m144_65, s144_68, m144_69, s144_70, s144_71, s144_72, s144_73, Int.toNat_natCast, Int.toNat_natCast, Nat.reduceAdd, Nat.reduceMul, Int.reduceToNat, Int.reduceAdd, Int.reduceLT, Int.reduceLE, Int.reduceEq, Int.reduceNeg, Int.reduceMul, Int.reduceSub, Nat.reduceSub, reduceIte, ite_true, ite_false, and_true, true_and, and_self, m144_3 h143, vk b hb, vv b hb, hk]
  · simp (disch := omega) only [s144_0, s144_1, s144_2, s144_6, s144_7, m144_8, s144_11, m144_12, s144_13, s144_44, s144_45, s144_46, s144_47, s144_48, s144_49, s144_50, s144_53, s144_54, s144_57, s144_58, s144_59, s144_60, s144_61, s144_62, s144_63, s144_64, m144_65, s144_68, m144_69, s144_70, s144_71, s144_72, s144_73, Int.toNat_natCast, Int.toNat_natCast, Nat.reduceAdd, Nat.reduceMul, Int.reduceToNat, Int.reduceAdd, Int.reduceLT, Int.reduceLE, Int.reduceEq, Int.reduceNeg, Int.reduceMul, Int.reduceSub, Nat.reduceSub, reduceIte, ite_true, ite_false, and_true, true_and, and_self, m144_3 h143, vk b hb, vv b hb, hk]
  · by_cases c : 4 < z
    · have c' : ¬ z ≤ 4 := by omega
      have e : min z 4 = 4 := by omega
      simp (disch := omega) only [s144_0, s144_1, s144_2, s144_6, s144_7, m144_8, s144_11, m144_12, s144_13, s144_44, s144_45, s144_46, s144_47, s144_48, s144_49, s144_50, s144_53, s144_54, s144_57, s144_58, s144_59, s144_60, s144_61, s144_62, s144_63, s144_64, m144_65, s144_68, m144_69, s144_70, s144_71, s144_72, s144_73, Int.toNat_natCast, Int.toNat_natCast, Nat.reduceAdd, Nat.reduceMul, Int.reduceToNat, Int.reduceAdd, Int.reduceLT, Int.reduceLE, Int.reduceEq, Int.reduceNeg, Int.reduceMul, Int.reduceSub, Nat.reduceSub, reduceIte, ite_true, ite_false, and_true, true_and, and_self, m144_3 h143, vk b hb, vv b hb, hk, c, c', e]
    · have c' : z ≤ 4 := by omega
      have e : min z 4 = z := by omega
      simp (disch := omega) only [s144_0, s144_1, s144_2, s144_6, s144_7, m144_8, s144_11, m144_12, s144_13, s144_44, s144_45, s144_46, s144_47, s144_48, s144_49, s144_50, s144_53, s144_54, s144_57, s144_58, s144_59, s144_60, s144_61, s144_62, s144_63, s144_64, m144_65, s144_68, m144_69, s144_70, s144_71, s144_72, s144_73, Int.toNat_natCast, Int.toNat_natCast, Nat.reduceAdd, Nat.reduceMul, Int.reduceToNat, Int.reduceAdd, Int.reduceLT, Int.reduceLE, Int.reduceEq, Int.reduceNeg, Int.reduceMul, Int.reduceSub, Nat.reduceSub, reduceIte, ite_true, ite_false, and_true, true_and, and_self, m144_3 h143, vk b hb, vv b hb, hk, c, c', e]
  · simp (disch := omega) only [s144_0, s144_1, s144_2, s144_6, s144_7, m144_8, s144_11, m144_12, s144_13, s144_44, s144_45, s144_46, s144_47, s144_48, s144_49, s144_50, s144_53, s144_54, s144_57, s144_58, s144_59, s144_60, s144_61, s144_62, s144_63, s144_64, m144_65, s144_68, m144_69, s144_70, s144_71, s144_72, s144_73, Int.toNat_natCast, Int.toNat_natCast, Nat.reduceAdd, Nat.reduceMul, Int.reduceToNat, Int.reduceAdd, Int.reduceLT, Int.reduceLE, Int.reduceEq, Int.reduceNeg, Int.reduceMul, Int.reduceSub, Nat.reduceSub, reduceIte, ite_true, ite_false, and_true, true_and, and_self, m144_3 h143, vk b hb, vv b hb, hk]
  · simp (disch := omega) only [s144_0, s144_1, s144_2, s144_6, s144_7, m144_8, s144_11, m144_12, s144_13, s144_44, s144_45, s144_46, s144_47, s144_48, s144_49, s144_50, s144_53, s144_54, s144_57, s144_58, s144_59, s144_60, s144_61, s144_62, s144_63, s144_64, m144_65, s144_68, m144_69, s144_70, s144_71, s144_72, s144_73, Int.toNat_natCast, Int.toNat_natCast, Nat.reduceAdd, Nat.reduceMul, Int.reduceToNat, Int.reduceAdd, Int.reduceLT, Int.reduceLE, Int.reduceEq, Int.reduceNeg, Int.reduceMul, Int.reduceSub, Nat.reduceSub, reduceIte, ite_true, ite_false, and_true, true_and, and_self, m144_3 h143, vk b hb, vv b hb, hk]
