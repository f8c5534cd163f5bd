/-! the model reads a clause: what is kept -/
def rcB (G : q_Gi) (e i : Nat) (r : Int × Int × List Int) : Prop := G 90 i = r.1 ∧ G 91 i = r.2.1 ∧ (r.1 ≤ 1 → ∃ a : Nat, G 92 i = (a : Int) ∧ G 93 i = ((a + r.2.2.length : Nat) : Int) ∧ a + r.2.2.length ≤ e ∧ ∀ k, k < r.2.2.length → G 94 (a + k) = mtk (r.2.2.getD k 0))
theorem rcB_W {G : q_Gi} {e i : Nat} {r : Int × Int × List Int} (he : e ≤ 600) (h : rcB G e i r) : rcW G i r := ⟨h.1, h.2.1, fun x => by
  obtain ⟨a, a1, a2, a3, a4⟩ := h.2.2 x
  exact ⟨a, a1, a2, by omega, a4⟩⟩
/-- all that lies before the clause c and its steps stays -/
def emC (c S0 : Nat) (G G' : q_Gi) : Prop := (∀ a, a ≠ 82 → a ≠ 89 → a ≠ 90 → a ≠ 91 → a ≠ 92 → a ≠ 93 → a ≠ 94 → a ≠ 95 → G' a = G a) ∧ (∀ k, k ≠ 11 → k ≠ 12 → k ≠ 21 → k ≠ 22 → k ≠ 23 → G' 82 k = G 82 k) ∧ (∀ k, k < S0 → G' 94 k = G 94 k) ∧ ∀ a k, a ≠ 82 → a ≠ 89 → a ≠ 94 → a ≠ 95 → k < c → G' a k = G a k
theorem emC_r (c S0 : Nat) (G : q_Gi) : emC c S0 G G := ⟨fun _ _ _ _ _ _ _ _ _ => rfl, fun _ _ _ _ _ _ => rfl, fun _ _ => rfl, fun _ _ _ _ _ _ _ => rfl⟩
theorem emC_t {c c' S0 S1 : Nat} {G G' G'' : q_Gi} (h1 : emC c S0 G G') (h2 : emC c' S1 G' G'') (hc : c ≤ c') (hS : S0 ≤ S1) : emC c S0 G G'' := ⟨fun a x0 x1 x2 x3 x4 x5 x6 x7 => (h2.1 a x0 x1 x2 x3 x4 x5 x6 x7).trans (h1.1 a x0 x1 x2 x3 x4 x5 x6 x7), fun k x y z w u => (h2.2.1 k x y z w u).trans (h1.2.1 k x y z w u), fun k x => (h2.2.2.1 k (by omega)).trans (h1.2.2.1 k x), fun a k x0 x1 x2 x3 x4 => (h2.2.2.2 a k x0 x1 x2 x3 (by omega)).trans (h1.2.2.2 a k x0 x1 x2 x3 x4)⟩
theorem rcB_C {G G' : q_Gi} {c S0 e i : Nat} {r : Int × Int × List Int} (h : rcB G e i r) (f : emC c S0 G G') (hi : i < c) (he : e ≤ S0) : rcB G' e i r := by
  refine ⟨by rw [f.2.2.2 90 i (by omega) (by omega) (by omega) (by omega) hi]; exact h.1, by rw [f.2.2.2 91 i (by omega) (by omega) (by omega) (by omega) hi]; exact h.2.1, fun x => ?_⟩
  obtain ⟨a, a1, a2, a3, a4⟩ := h.2.2 x
  exact ⟨a, by rw [f.2.2.2 92 i (by omega) (by omega) (by omega) (by omega) hi]; exact a1, by rw [f.2.2.2 93 i (by omega) (by omega) (by omega) (by omega) hi]; exact a2, a3, fun k hk => by rw [f.2.2.1 _ (by omega)]; exact a4 k hk⟩
theorem rcB_e {G : q_Gi} {e e' i : Nat} {r : Int × Int × List Int} (h : rcB G e i r) (he : e ≤ e') : rcB G e' i r := ⟨h.1, h.2.1, fun x => by
  obtain ⟨a, a1, a2, a3, a4⟩ := h.2.2 x
  exact ⟨a, a1, a2, by omega, a4⟩⟩
theorem emC_m {c S0 n : Nat} {G G' : q_Gi} {nx : Nat → Int} (h : emC c S0 G G') (hm : mrd G n nx) : mrd G' n nx := ⟨by rw [h.2.1 10 (by omega) (by omega) (by omega) (by omega) (by omega)]; exact hm.1, hm.2.1, by rw [h.1 88 (by omega) (by omega) (by omega) (by omega) (by omega) (by omega) (by omega) (by omega)]; exact hm.2.2.1, hm.2.2.2⟩
theorem emC_l {c S0 : Nat} {G G' : q_Gi} (h : emC c S0 G G') (hl : ltr G) : ltr G' := fun j hj => by rw [h.1 96 (by omega) (by omega) (by omega) (by omega) (by omega) (by omega) (by omega) (by omega)]; exact hl j hj
theorem hdL_c {nx : Nat → Int} {p : Nat} : ∀ c, c ∈ hdL nx p → 0 ≤ c := by
  unfold hdL
  by_cases c1 : nx p = 116
  · rw [if_pos c1]; exact wdT_c
  rw [if_neg c1]
  by_cases c2 : nx p = 103
  · rw [if_pos c2]; exact wdG_c
  rw [if_neg c2]
  by_cases c3 : nx (p + 1) = 105
  · rw [if_pos c3]; exact wdI_c
  · rw [if_neg c3]; exact wdO_c
theorem hdW_r {nx : Nat → Int} {p : Nat} : 0 ≤ hdW nx p ∧ hdW nx p ≤ 3 := by
  unfold hdW
  repeat' split
  all_goals omega
theorem mcl_g {nx : Nat → Int} {n p : Nat} (h : txt nx n) (hp : p ≤ n) : p ≤ (mclS nx p).2.1 ∧ (mclS nx p).2.1 ≤ n ∧ ((mclS nx p).1 = true → rcOK (mclS nx p).2.2 ∧ p + (mclS nx p).2.2.2.2.length ≤ (mclS nx p).2.1) := by
  have g := nb_g h (hdL nx p) p hdL_c hp
  have w := hdW_r (nx := nx) (p := p)
  unfold mclS
  by_cases c1 : (nbS nx (hdL nx p) p).1 < 0
  · rw [if_pos c1]; exact ⟨g.1, g.2.1, fun e => absurd e Bool.false_ne_true⟩
  rw [if_neg c1]
  by_cases c2 : 2 ≤ hdW nx p
  · rw [if_pos c2]; exact ⟨g.1, g.2.1, fun _ => ⟨⟨w, ⟨by simp only []; omega, g.2.2.2⟩, fun e => absurd e (by simp only []; omega)⟩, g.1⟩⟩
  rw [if_neg c2]
  by_cases c3 : nx (nbS nx (hdL nx p) p).2 = 32
  · rw [if_pos c3]
    have l := txt_lt h (by decide) c3
    have gE := eit_g h (one_g h 4) ((nbS nx (hdL nx p) p).2 + 1) (by omega)
    by_cases c4 : (eitS nx (oneS nx 4) ((nbS nx (hdL nx p) p).2 + 1)).1 = true
    · rw [if_pos c4]
      refine ⟨by simp only []; omega, by simp only []; omega, fun _ => ⟨⟨w, ⟨by simp only []; omega, g.2.2.2⟩, fun _ => ?_⟩, by simp only []; omega⟩⟩
      have := eit_ok (one_ok h 4 12 rfl) ((nbS nx (hdL nx p) p).2 + 1) 0 [] c4 (by decide) rfl
      rw [List.append_nil] at this
      exact this
    · rw [if_neg c4]; exact ⟨by simp only []; omega, by simp only []; omega, fun e => absurd e Bool.false_ne_true⟩
  · rw [if_neg c3]; exact ⟨g.1, g.2.1, fun e => absurd e Bool.false_ne_true⟩
theorem sp135 {d c S0 n p N L : Nat} {B : q_Bv} {G : q_Gi} {nx : Nat → Int} (hd : 8 ≤ d) (hc : c < 60) (hm : mrd G n nx) (hl : ltr G) (ha : G 82 11 = (p : Int)) (hpn : p ≤ n) (hs : G 82 21 = (S0 : Int)) (hl0 : S0 ≤ 500 + p) : ∃ G', Sp d 135 [.ref 82, vI c] (hp N L B G) (some (vI (bI ((mclS nx p).1 = true)))) (hp N L B G') ∧ G' 82 11 = ((mclS nx p).2.1 : Int) ∧ emC c S0 G G' ∧ (∀ k, G' 89 k = G 89 k) ∧ ((mclS nx p).1 = true → rcB G' (S0 + (mclS nx p).2.2.2.2.length) c (mclS nx p).2.2 ∧ G' 82 21 = ((S0 + (mclS nx p).2.2.2.2.length : Nat) : Int)) := by
  have ht := hm.2.2.2
  have h134 := sp134 (d := d - 1) (c := c) (N := N) (L := L) (B := B) (by omega) hc hm hl ha hpn
  have gw := wrd_g ht (hdL nx p) p hdL_c hpn
  have w := hdW_r (nx := nx) (p := p)
  have hm1 : mrd (ug (ug G 90 c (hdW nx p)) 82 11 ((wrdS nx (hdL nx p) p).2 : Nat)) n nx := mrd_u (mrd_n hm (by omega) (by omega)) (by omega)
  have F1 : emC c S0 G (ug (ug G 90 c (hdW nx p)) 82 11 ((wrdS nx (hdL nx p) p).2 : Nat)) := ⟨fun a x0 x1 x2 x3 x4 x5 x6 x7 => by rw [ug_ne x0, ug_ne x2], fun k x y z w u => by rw [ug_k x, ug_ne (by omega)], fun k hk => by rw [ug_ne (by omega), ug_ne (by omega)], fun a k x0 x1 x2 x3 x4 => by rw [ug_ne x0, ug_k (by omega)]⟩
  by_cases c0 : ¬ (wrdS nx (hdL nx p) p).1 = true
  · have e1 : nbS nx (hdL nx p) p = (-1, (wrdS nx (hdL nx p) p).2) := by unfold nbS; rw [if_neg c0]
    have e2 : mclS nx p = (false, (wrdS nx (hdL nx p) p).2, rc0) := by
      unfold mclS
      rw [e1, if_pos (show ((-1 : Int), (wrdS nx (hdL nx p) p).2).1 < 0 from (by decide : (-1 : Int) < 0))]
    rw [bI_f c0] at h134
    rw [e2, bI_f (show ¬ (false, (wrdS nx (hdL nx p) p).2, rc0).1 = true from Bool.false_ne_true)]
    refine ⟨_, ?_, ug_at, F1, fun k => by rw [ug_ne (by omega), ug_ne (by omega)], fun e => absurd e Bool.false_ne_true⟩
    refine e135 (by omega) ?_
    simp (disch := omega) only [s135_0, s135_1, s135_5, s135_5b, s135_8, s135_12, s135_12b, s135_15, s135_16, s135_16b, s135_17, m135_18, s135_21, s135_22, m135_23, m135_26, s135_27, m135_28, s135_31, m135_32, s135_33, s135_34, s135_37, s135_38, s135_43, s135_43b, s135_46, s135_47, s135_51, s135_51b, s135_54, s135_55, s135_58, s135_59, s135_59b, Int.toNat_natCast, Int.toNat_natCast, Nat.reduceAdd, Nat.reduceMul, Int.reduceToNat, Int.reduceAdd, Int.reduceLT, Int.reduceLE, Int.reduceEq, Int.reduceNeg, Int.reduceMul, Int.reduceSub, Nat.reduceSub, reduceIte, ite_true, ite_false, and_true, true_and, and_self, m135_2 h134]
  have c0 : (wrdS nx (hdL nx p) p).1 = true := Decidable.not_not.mp c0
  have e1 : nbS nx (hdL nx p) p = numS nx (wrdS nx (hdL nx p) p).2 := by unfold nbS; rw [if_pos c0]
  rw [bI_t c0] at h134
  obtain ⟨G2, s2, a2, dg2, f1, f2⟩ := sp127 (d := d - 1) (p := (wrdS nx (hdL nx p) p).2) (N := N) (L := L) (B := B) (by omega) hm1 ug_at gw.2
  have gn := num_g ht gw.2
  rw [← e1] at s2 a2 dg2 gn
  have F2 : emC c S0 G G2 := ⟨fun a x0 x1 x2 x3 x4 x5 x6 x7 => by rw [f1 a x0, ug_ne x0, ug_ne x2], fun k x y z w u => by rw [f2 k x y, ug_k x, ug_ne (by omega)], fun k hk => by rw [f1 94 (by omega), ug_ne (by omega), ug_ne (by omega)], fun a k x0 x1 x2 x3 x4 => by rw [f1 a x0, ug_ne x0, ug_k (by omega)]⟩
  have g89 : ∀ k, G2 89 k = G 89 k := fun k => by rw [f1 89 (by omega), ug_ne (by omega), ug_ne (by omega)]
  have g90 : G2 90 c = hdW nx p := by rw [f1 90 (by omega), ug_ne (by omega), ug_at]
  unfold mclS
  by_cases c1 : (nbS nx (hdL nx p) p).1 < 0
  · rw [bI_f (show ¬ 0 ≤ (nbS nx (hdL nx p) p).1 by omega)] at s2
    rw [if_pos c1, bI_f (show ¬ (false, (nbS nx (hdL nx p) p).2, rc0).1 = true from Bool.false_ne_true)]
    refine ⟨G2, ?_, a2, F2, g89, fun e => absurd e Bool.false_ne_true⟩
    refine e135 (by omega) ?_
    simp (disch := omega) only [s135_0, s135_1, s135_5, s135_5b, s135_8, s135_12, s135_12b, s135_15, s135_16, s135_16b, s135_17, m135_18, s135_21, s135_22, m135_23, m135_26, s135_27, m135_28, s135_31, m135_32, s135_33, s135_34, s135_37, s135_38, s135_43, s135_43b, s135_46, s135_47, s135_51, s135_51b, s135_54, s135_55, s135_58, s135_59, s135_59b, Int.toNat_natCast, Int.toNat_natCast, Nat.reduceAdd, Nat.reduceMul, Int.reduceToNat, Int.reduceAdd, Int.reduceLT, Int.reduceLE, Int.reduceEq, Int.reduceNeg, Int.reduceMul, Int.reduceSub, Nat.reduceSub, reduceIte, ite_true, ite_false, and_true, true_and, and_self, m135_2 h134, m135_9 s2]
  have c1' : 0 ≤ (nbS nx (hdL nx p) p).1 := by omega
  rw [if_neg c1]
  rw [bI_t c1'] at s2
  have d2 := dg2 c1'
  have F3 : emC c S0 G (ug G2 91 c (nbS nx (hdL nx p) p).1) := emC_t F2 ⟨fun a x0 x1 x2 x3 x4 x5 x6 x7 => by rw [ug_ne x3], fun k x y z w u => by rw [ug_ne (by omega)], fun k hk => by rw [ug_ne (by omega)], fun a k x0 x1 x2 x3 x4 => by rw [ug_k (by omega)]⟩ (Nat.le_refl _) (Nat.le_refl _)
  have g21 : ug G2 91 c (nbS nx (hdL nx p) p).1 82 21 = (S0 : Int) := by rw [ug_ne (by omega), f2 21 (by omega) (by omega), ug_k (by omega), ug_ne (by omega)]; exact hs
  have a3 : ug G2 91 c (nbS nx (hdL nx p) p).1 82 11 = ((nbS nx (hdL nx p) p).2 : Int) := by rw [ug_ne (by omega)]; exact a2
  have g90' : ug G2 91 c (nbS nx (hdL nx p) p).1 90 c = hdW nx p := by rw [ug_ne (by omega)]; exact g90
  have m3 : mrd (ug G2 91 c (nbS nx (hdL nx p) p).1) n nx := emC_m F3 hm
  by_cases c2 : 2 ≤ hdW nx p
  · rw [if_pos c2, bI_t (show (true, (nbS nx (hdL nx p) p).2, hdW nx p, (nbS nx (hdL nx p) p).1, ([] : List Int)).1 = true from rfl)]
    have c2t := eq_false (show ¬ hdW nx p < 2 by omega)
    refine ⟨_, ?_, a3, F3, fun k => by rw [ug_ne (by omega)]; exact g89 k, fun _ => ⟨⟨g90', ug_at, fun x => absurd x (by simp only []; omega)⟩, g21⟩⟩
    refine e135 (by omega) ?_
    simp (disch := omega) only [s135_0, s135_1, s135_5, s135_5b, s135_8, s135_12, s135_12b, s135_15, s135_16, s135_16b, s135_17, m135_18, s135_21, s135_22, m135_23, m135_26, s135_27, m135_28, s135_31, m135_32, s135_33, s135_34, s135_37, s135_38, s135_43, s135_43b, s135_46, s135_47, s135_51, s135_51b, s135_54, s135_55, s135_58, s135_59, s135_59b, Int.toNat_natCast, Int.toNat_natCast, Nat.reduceAdd, Nat.reduceMul, Int.reduceToNat, Int.reduceAdd, Int.reduceLT, Int.reduceLE, Int.reduceEq, Int.reduceNeg, Int.reduceMul, Int.reduceSub, Nat.reduceSub, reduceIte, ite_true, ite_false, and_true, true_and, and_self, m135_2 h134, m135_9 s2, d2, g90', c2t, if_false]
  rw [if_neg c2]
  have c2f := eq_true (show hdW nx p < 2 by omega)
  by_cases c3 : ¬ nx (nbS nx (hdL nx p) p).2 = 32
  · rw [if_neg c3, bI_f (show ¬ (false, (nbS nx (hdL nx p) p).2, rc0).1 = true from Bool.false_ne_true)]
    have h124 := sp124_f (d := d - 1) (c := 32) (N := N) (L := L) (B := B) (by omega) m3 a3 gn.2.1 (by omega) c3
    refine ⟨_, ?_, a3, F3, fun k => by rw [ug_ne (by omega)]; exact g89 k, fun e => absurd e Bool.false_ne_true⟩
    refine e135 (by omega) ?_
    simp (disch := omega) only [s135_0, s135_1, s135_5, s135_5b, s135_8, s135_12, s135_12b, s135_15, s135_16, s135_16b, s135_17, m135_18, s135_21, s135_22, m135_23, m135_26, s135_27, m135_28, s135_31, m135_32, s135_33, s135_34, s135_37, s135_38, s135_43, s135_43b, s135_46, s135_47, s135_51, s135_51b, s135_54, s135_55, s135_58, s135_59, s135_59b, Int.toNat_natCast, Int.toNat_natCast, Nat.reduceAdd, Nat.reduceMul, Int.reduceToNat, Int.reduceAdd, Int.reduceLT, Int.reduceLE, Int.reduceEq, Int.reduceNeg, Int.reduceMul, Int.reduceSub, Nat.reduceSub, reduceIte, ite_true, ite_false, and_true, true_and, and_self, m135_2 h134, m135_9 s2, d2, g90', c2f, if_true, m135_40 h124]
  have c3 : nx (nbS nx (hdL nx p) p).2 = 32 := Decidable.not_not.mp c3
  rw [if_pos c3]
  have l3 := txt_lt ht (by decide) c3
  have h124 := sp124_t (d := d - 1) (c := 32) (N := N) (L := L) (B := B) (by omega) m3 a3 gn.2.1 (by omega) c3
  obtain ⟨G4, s4, a4, f4, f5, f6, f7, f8, f9⟩ := sp133 (d := d - 1) (c := c) (p := (nbS nx (hdL nx p) p).2 + 1) (S0 := S0) (N := N) (L := L) (B := B) (by omega) hc (mrd_u m3 (by omega)) ug_at (by omega) (by rw [ug_k (by omega)]; exact g21) (by omega)
  have F4 : emC c S0 G G4 := emC_t F3 ⟨fun a x0 x1 x2 x3 x4 x5 x6 x7 => by rw [f4 a x0 x4 x5 x6 x7, ug_ne x0], fun k x y z w u => by rw [f5 k x y z w u, ug_k x], fun k hk => by rw [f6 k hk, ug_ne (by omega)], fun a k x0 x1 x2 x3 x4 => by
    by_cases b1 : a = 92
    · rw [b1, (f7 k (by omega)).2, ug_ne (by omega)]
    by_cases b2 : a = 93
    · rw [b2, (f7 k (by omega)).1, ug_ne (by omega)]
    rw [f4 a x0 b1 b2 x2 x3, ug_ne x0]⟩ (Nat.le_refl _) (Nat.le_refl _)
  have g89' : ∀ k, G4 89 k = G 89 k := fun k => by rw [f4 89 (by omega) (by omega) (by omega) (by omega) (by omega), ug_ne (by omega), ug_ne (by omega)]; exact g89 k
  by_cases c4 : (eitS nx (oneS nx 4) ((nbS nx (hdL nx p) p).2 + 1)).1 = true
  · rw [if_pos c4, bI_t (show (true, (eitS nx (oneS nx 4) ((nbS nx (hdL nx p) p).2 + 1)).2.1, hdW nx p, (nbS nx (hdL nx p) p).1, (eitS nx (oneS nx 4) ((nbS nx (hdL nx p) p).2 + 1)).2.2).1 = true from rfl)]
    rw [bI_t c4] at s4
    obtain ⟨q1, q2⟩ := f9 c4
    refine ⟨G4, ?_, a4, F4, g89', fun _ => ⟨⟨by rw [f4 90 (by omega) (by omega) (by omega) (by omega) (by omega), ug_ne (by omega)]; exact g90', by rw [f4 91 (by omega) (by omega) (by omega) (by omega) (by omega), ug_ne (by omega), ug_at], fun _ => ⟨S0, f8, q1, Nat.le_refl _, q2.2⟩⟩, q2.1⟩⟩
    refine e135 (by omega) ?_
    simp (disch := omega) only [s135_0, s135_1, s135_5, s135_5b, s135_8, s135_12, s135_12b, s135_15, s135_16, s135_16b, s135_17, m135_18, s135_21, s135_22, m135_23, m135_26, s135_27, m135_28, s135_31, m135_32, s135_33, s135_34, s135_37, s135_38, s135_43, s135_43b, s135_46, s135_47, s135_51, s135_51b, s135_54, s135_55, s135_58, s135_59, s135_59b, Int.toNat_natCast, Int.toNat_natCast, Nat.reduceAdd, Nat.reduceMul, Int.reduceToNat, Int.reduceAdd, Int.reduceLT, Int.reduceLE, Int.reduceEq, Int.reduceNeg, Int.reduceMul, Int.reduceSub, Nat.reduceSub, reduceIte, ite_true, ite_false, and_true, true_and, and_self, m135_2 h134, m135_9 s2, d2, g90', c2f, if_true, m135_40 h124, m135_48 s4]
  · rw [if_neg c4, bI_f (show ¬ (false, (eitS nx (oneS nx 4) ((nbS nx (hdL nx p) p).2 + 1)).2.1, rc0).1 = true from Bool.false_ne_true)]
    rw [bI_f c4] at s4
    refine ⟨G4, ?_, a4, F4, g89', fun e => absurd e Bool.false_ne_true⟩
    refine e135 (by omega) ?_
    simp (disch := omega) only [s135_0, s135_1, s135_5, s135_5b, s135_8, s135_12, s135_12b, s135_15, s135_16, s135_16b, s135_17, m135_18, s135_21, s135_22, m135_23, m135_26, s135_27, m135_28, s135_31, m135_32, s135_33, s135_34, s135_37, s135_38, s135_43, s135_43b, s135_46, s135_47, s135_51, s135_51b, s135_54, s135_55, s135_58, s135_59, s135_59b, Int.toNat_natCast, Int.toNat_natCast, Nat.reduceAdd, Nat.reduceMul, Int.reduceToNat, Int.reduceAdd, Int.reduceLT, Int.reduceLE, Int.reduceEq, Int.reduceNeg, Int.reduceMul, Int.reduceSub, Nat.reduceSub, reduceIte, ite_true, ite_false, and_true, true_and, and_self, m135_2 h134, m135_9 s2, d2, g90', c2f, if_true, m135_40 h124, m135_48 s4]
/-- the model reads a whole text -/
def updX (nx : Nat → Int) (n k : Nat) (rc : List (Int × Int × List Int)) (p : Nat) : Bool × Nat × Int × Int × List (Int × List Int) := if (clzS nx (sumR rc) p).1 = true then (if (clzS nx (sumR rc) p).2.1 = n then (true, n, (clzS nx (sumR rc) p).2.2) else updL nx n k (rc.length + 1) (clzS nx (sumR rc) p).2.2 (clzS nx (sumR rc) p).2.1) else (false, (clzS nx (sumR rc) p).2.1, (clzS nx (sumR rc) p).2.2)
def tksR (rc : List (Int × Int × List Int)) : Nat := (rc.map (fun r => r.2.2.length)).sum
/-- the clauses of the upland f, so far -/
def rcs (G : q_Gi) (f e : Nat) (rc : List (Int × Int × List Int)) : Prop := rc.length ≤ 10 ∧ (∀ i, i < rc.length → rcB G e (10 * f + i) (rc.getD i rc0)) ∧ ∀ r, r ∈ rc → rcOK r
theorem getD_l3 {l : List (Int × Int × List Int)} {x : Int × Int × List Int} {k : Nat} (h : k < l.length) : (l ++ [x]).getD k rc0 = l.getD k rc0 := by
  rw [List.getD_eq_getElem?_getD, List.getD_eq_getElem?_getD, List.getElem?_append_left h]
theorem getD_e3 {l : List (Int × Int × List Int)} {x : Int × Int × List Int} : (l ++ [x]).getD l.length rc0 = x := by
  rw [List.getD_eq_getElem?_getD, List.getElem?_append_right (Nat.le_refl _), Nat.sub_self]; rfl
theorem rcs_app {G G' : q_Gi} {f S0 e' : Nat} {rc : List (Int × Int × List Int)} {r : Int × Int × List Int} (h : rcs G f S0 rc) (hl : rc.length < 10) (F : emC (10 * f + rc.length) S0 G G') (hr : rcB G' e' (10 * f + rc.length) r) (ho : rcOK r) (he : S0 ≤ e') : rcs G' f e' (rc ++ [r]) := by
  refine ⟨by rw [List.length_append, List.length_cons, List.length_nil]; omega, fun i hi => ?_, fun x hx => ?_⟩
  · rw [List.length_append, List.length_cons, List.length_nil] at hi
    by_cases c : i = rc.length
    · rw [c, getD_e3]; exact hr
    · rw [getD_l3 (by omega)]; exact rcB_e (rcB_C (h.2.1 i (by omega)) F (by omega) (Nat.le_refl _)) he
  · rcases List.mem_append.mp hx with hx | hx
    · exact h.2.2 x hx
    · rw [List.mem_singleton] at hx
      rw [hx]; exact ho
def gtQ (f n N L : Nat) (B : q_Bv) (G0 : q_Gi) (R : Bool × Nat × Int × Int × List (Int × List Int)) (r1 : Option Value) (X1 : q_H) : Prop := ∃ G', r1 = some (vI (bI (R.1 = true))) ∧ X1 = hp N L B G' ∧ G' 82 11 = (R.2.1 : Int) ∧ emC (10 * f) (100 * f) G0 G' ∧ (∀ k, k ≠ f → G' 89 k = G0 89 k) ∧ (R.1 = true → ∃ rc, R.2.2 = sumR rc ∧ rcs G' f (100 * f + n) rc ∧ G' 89 f = (rc.length : Int))
def gtH (f n N L : Nat) (B : q_Bv) (nx : Nat → Int) (G0 : q_Gi) (d k p S0 : Nat) (rc : List (Int × Int × List Int)) (G : q_Gi) : Prop := rc.length + (k + 1) = 10 → mrd G n nx → ltr G → G 82 11 = (p : Int) → p ≤ n → G 82 21 = (S0 : Int) → 100 * f ≤ S0 → S0 ≤ 100 * f + p → rcs G f S0 rc → emC (10 * f) (100 * f) G0 G → (∀ k, k ≠ f → G 89 k = G0 89 k) → WP d 136 15 [.ref 82, vI f, vI (rc.length : Nat)] [] (hp N L B G) (gtQ f n N L B G0 (updX nx n k rc p))
theorem st136 {d f n N L : Nat} {B : q_Bv} {nx : Nat → Int} {G0 : q_Gi} (hd : 9 ≤ d) (hf : f < 6) (k p S0 : Nat) (rc : List (Int × Int × List Int)) (G : q_Gi) (hnext : ∀ (k' p' S0' : Nat) (rc' : List (Int × Int × List Int)) (G' : q_Gi), k = k' + 1 → gtH f n N L B nx G0 d k' p' S0' rc' G') : gtH f n N L B nx G0 d k p S0 rc G := by
  intro hk hm hl ha hpn hs hS1 hS2 hr hF h89
  have ht := hm.2.2.2
  have hn := hm.2.1
  obtain ⟨e1, e2, e3⟩ := mcl_clz (nx := nx) p rc
  have g := mcl_g ht hpn
  have ec : (10 : Int) * (f : Int) + (rc.length : Int) = ((10 * f + rc.length : Nat) : Int) := by omega
  have en : (rc.length : Int) + 1 = ((rc.length + 1 : Nat) : Int) := rfl
  obtain ⟨G1, s1, a1, f1, k1, r1⟩ := sp135 (d := d) (c := 10 * f + rc.length) (S0 := S0) (N := N) (L := L) (B := B) (by omega) (by omega) hm hl ha hpn hs (by omega)
  have F1 : emC (10 * f) (100 * f) G0 G1 := emC_t hF f1 (by omega) hS1
  have h89' : ∀ k, k ≠ f → G1 89 k = G0 89 k := fun k hk => (k1 k).trans (h89 k hk)
  unfold updX
  rw [e1, e2]
  by_cases ok : ¬ (mclS nx p).1 = true
  · rw [if_neg ok]
    rw [bI_f ok] at s1
    have : gtQ f n N L B G0 (false, (mclS nx p).2.1, (clzS nx (sumR rc) p).2.2) (some (vI 0)) (hp N L B G1) := ⟨G1, by rw [bI_f Bool.false_ne_true], rfl, a1, F1, h89', fun e => absurd e Bool.false_ne_true⟩
    rw [s136_15]
    simp (disch := omega) only [s136_16, s136_18, s136_19, s136_20, s136_21, s136_25, s136_25b, s136_28, s136_29, s136_29b, s136_30, s136_33, m136_34, s136_37, s136_38, m136_39, s136_40, m136_41, s136_44, m136_45, s136_48, s136_48b, s136_51, s136_52, s136_52b, s136_53, s136_54, s136_56, s136_56b, s136_59, s136_60, s136_65, s136_65b, s136_68, s136_69, s136_69b, Int.toNat_natCast, Int.toNat_natCast, Nat.reduceAdd, Nat.reduceMul, Int.reduceToNat, Int.reduceAdd, Int.reduceLT, Int.reduceLE, Int.reduceEq, Int.reduceNeg, Int.reduceMul, Int.reduceSub, Nat.reduceSub, reduceIte, ite_true, ite_false, and_true, true_and, and_self, ec, m136_22 s1]
    exact this
  have ok : (mclS nx p).1 = true := Decidable.not_not.mp ok
  rw [if_pos ok, e3 ok]
  rw [bI_t ok] at s1
  obtain ⟨b1, b2⟩ := r1 ok
  obtain ⟨o1, o2⟩ := g.2.2 ok
  have hm1 := emC_m f1 hm
  have hl1 := emC_l f1 hl
  have hr1 := rcs_app hr (by omega) f1 b1 o1 (by omega)
  have fz : ∀ z : Int, emC (10 * f) (100 * f) G1 (ug G1 89 f z) := fun z => ⟨fun a x0 x1 x2 x3 x4 x5 x6 x7 => by rw [ug_ne x1], fun k x y z w u => by rw [ug_ne (by omega)], fun k hk => by rw [ug_ne (by omega)], fun a k x0 x1 x2 x3 x4 => by rw [ug_ne x1]⟩
  have F2 : ∀ z : Int, emC (10 * f) (100 * f) G0 (ug G1 89 f z) := fun z => emC_t F1 (fz z) (Nat.le_refl _) (Nat.le_refl _)
  have rcz : ∀ (z : Int) (i e : Nat) (r : Int × Int × List Int), rcB G1 e i r → rcB (ug G1 89 f z) e i r := fun z i e r h => ⟨by rw [ug_ne (by omega)]; exact h.1, by rw [ug_ne (by omega)]; exact h.2.1, fun x => by
    obtain ⟨a, a1, a2, a3, a4⟩ := h.2.2 x
    exact ⟨a, by rw [ug_ne (by omega)]; exact a1, by rw [ug_ne (by omega)]; exact a2, a3, fun k hk => by rw [ug_ne (by omega)]; exact a4 k hk⟩⟩
  have hr2 : ∀ (z : Int) (e : Nat), S0 + (mclS nx p).2.2.2.2.length ≤ e → rcs (ug G1 89 f z) f e (rc ++ [(mclS nx p).2.2]) := fun z e he => ⟨hr1.1, fun i hi => rcB_e (rcz z _ _ _ (hr1.2.1 i hi)) he, hr1.2.2⟩
  have hlen : (rc ++ [(mclS nx p).2.2]).length = rc.length + 1 := by rw [List.length_append]; rfl
  by_cases c1 : (mclS nx p).2.1 = n
  · rw [if_pos c1]
    have a1n : G1 82 11 = (n : Int) := by rw [a1, c1]
    have : gtQ f n N L B G0 (true, n, sumR (rc ++ [(mclS nx p).2.2])) (some (vI 1)) (hp N L B (ug G1 89 f ((rc.length + 1 : Nat) : Int))) := ⟨_, by rw [bI_t rfl], rfl, by rw [ug_ne (by omega)]; exact a1n, F2 _, fun k hk => by rw [ug_k hk]; exact h89' k hk, fun _ => ⟨_, rfl, hr2 _ _ (by omega), by rw [ug_at, hlen]⟩⟩
    rw [s136_15]
    simp (disch := omega) only [s136_16, s136_18, s136_19, s136_20, s136_21, s136_25, s136_25b, s136_28, s136_29, s136_29b, s136_30, s136_33, m136_34, s136_37, s136_38, m136_39, s136_40, m136_41, s136_44, m136_45, s136_48, s136_48b, s136_51, s136_52, s136_52b, s136_53, s136_54, s136_56, s136_56b, s136_59, s136_60, s136_65, s136_65b, s136_68, s136_69, s136_69b, Int.toNat_natCast, Int.toNat_natCast, Nat.reduceAdd, Nat.reduceMul, Int.reduceToNat, Int.reduceAdd, Int.reduceLT, Int.reduceLE, Int.reduceEq, Int.reduceNeg, Int.reduceMul, Int.reduceSub, Nat.reduceSub, reduceIte, ite_true, ite_false, and_true, true_and, and_self, ec, en, m136_22 s1, ug_ne, a1n, hm1.1]
    exact this
  rw [if_neg c1]
  have c1f := eq_false (show ¬ ((mclS nx p).2.1 : Int) = (n : Int) by omega)
  have m2 : mrd (ug G1 89 f ((rc.length + 1 : Nat) : Int)) n nx := mrd_n hm1 (by omega) (by omega)
  have a2 : ug G1 89 f ((rc.length + 1 : Nat) : Int) 82 11 = ((mclS nx p).2.1 : Int) := by rw [ug_ne (by omega)]; exact a1
  have QF : ∀ st : Int × Int × List (Int × List Int), gtQ f n N L B G0 (false, (mclS nx p).2.1, st) (some (vI 0)) (hp N L B (ug G1 89 f ((rc.length + 1 : Nat) : Int))) := fun st => ⟨_, by rw [bI_f Bool.false_ne_true], rfl, a2, F2 _, fun k hk => by rw [ug_k hk]; exact h89' k hk, fun e => absurd e Bool.false_ne_true⟩
  cases k with
  | zero =>
    have l9 : rc.length = 9 := by omega
    have := QF (sumR (rc ++ [(mclS nx p).2.2]))
    rw [l9] at this ec en s1
    rw [l9, s136_15]
    simp (disch := omega) only [s136_16, s136_18, s136_19, s136_20, s136_21, s136_25, s136_25b, s136_28, s136_29, s136_29b, s136_30, s136_33, m136_34, s136_37, s136_38, m136_39, s136_40, m136_41, s136_44, m136_45, s136_48, s136_48b, s136_51, s136_52, s136_52b, s136_53, s136_54, s136_56, s136_56b, s136_59, s136_60, s136_65, s136_65b, s136_68, s136_69, s136_69b, Int.toNat_natCast, Int.toNat_natCast, Nat.reduceAdd, Nat.reduceMul, Int.reduceToNat, Int.reduceAdd, Int.reduceLT, Int.reduceLE, Int.reduceEq, Int.reduceNeg, Int.reduceMul, Int.reduceSub, Nat.reduceSub, reduceIte, ite_true, ite_false, and_true, true_and, and_self, ec, en, m136_22 s1, ug_ne, a1, hm1.1, c1f, if_false]
    exact this
  | succ k =>
    have l9 := eq_false (show ¬ ((rc.length + 1 : Nat) : Int) = 10 by omega)
    have hst : updL nx n (k + 1) (rc.length + 1) (sumR (rc ++ [(mclS nx p).2.2])) (mclS nx p).2.1 = if ¬ nx (mclS nx p).2.1 = 59 then (false, (mclS nx p).2.1, sumR (rc ++ [(mclS nx p).2.2])) else updX nx n k (rc ++ [(mclS nx p).2.2]) ((mclS nx p).2.1 + 1) := by
      unfold updX
      rw [hlen]
      show (if 0 < rc.length + 1 ∧ ¬ nx (mclS nx p).2.1 = 59 then _ else _) = _
      rw [if_pos (show 0 < rc.length + 1 by omega)]
      by_cases c5 : nx (mclS nx p).2.1 = 59
      · rw [if_neg (fun h => h.2 c5), if_neg (show ¬ ¬ nx (mclS nx p).2.1 = 59 from fun h => h c5)]
      · rw [if_pos ⟨Nat.succ_pos _, c5⟩, if_pos c5]
    rw [hst]
    by_cases c5 : ¬ nx (mclS nx p).2.1 = 59
    · rw [if_pos c5]
      have h124 := sp124_f (d := d) (c := 59) (N := N) (L := L) (B := B) (by omega) m2 a2 (by omega) (by omega) c5
      have := QF (sumR (rc ++ [(mclS nx p).2.2]))
      rw [s136_15]
      simp (disch := omega) only [s136_16, s136_18, s136_19, s136_20, s136_21, s136_25, s136_25b, s136_28, s136_29, s136_29b, s136_30, s136_33, m136_34, s136_37, s136_38, m136_39, s136_40, m136_41, s136_44, m136_45, s136_48, s136_48b, s136_51, s136_52, s136_52b, s136_53, s136_54, s136_56, s136_56b, s136_59, s136_60, s136_65, s136_65b, s136_68, s136_69, s136_69b, Int.toNat_natCast, Int.toNat_natCast, Nat.reduceAdd, Nat.reduceMul, Int.reduceToNat, Int.reduceAdd, Int.reduceLT, Int.reduceLE, Int.reduceEq, Int.reduceNeg, Int.reduceMul, Int.reduceSub, Nat.reduceSub, reduceIte, ite_true, ite_false, and_true, true_and, and_self, ec, en, m136_22 s1, ug_ne, a1, hm1.1, c1f, l9, if_false, m136_62 h124]
      exact this
    · rw [if_neg c5]
      have c5 : nx (mclS nx p).2.1 = 59 := Decidable.not_not.mp c5
      have l5 := txt_lt ht (by decide) c5
      have h124 := sp124_t (d := d) (c := 59) (N := N) (L := L) (B := B) (by omega) m2 a2 (by omega) (by omega) c5
      have := hnext k ((mclS nx p).2.1 + 1) (S0 + (mclS nx p).2.2.2.2.length) (rc ++ [(mclS nx p).2.2]) (ug (ug G1 89 f ((rc.length + 1 : Nat) : Int)) 82 11 (((mclS nx p).2.1 + 1 : Nat) : Int)) rfl (by rw [hlen]; omega) (mrd_u m2 (by omega)) (fun j hj => by rw [ug_ne (by omega), ug_ne (by omega)]; exact hl1 j hj) ug_at (by omega) (by rw [ug_k (by omega), ug_ne (by omega)]; exact b2) (by omega) (by omega) ⟨hr1.1, fun i hi => by
        have := (hr2 ((rc.length + 1 : Nat) : Int) _ (Nat.le_refl _)).2.1 i hi
        exact ⟨by rw [ug_ne (by omega)]; exact this.1, by rw [ug_ne (by omega)]; exact this.2.1, fun x => by
          obtain ⟨a, a1, a2, a3, a4⟩ := this.2.2 x
          exact ⟨a, by rw [ug_ne (by omega)]; exact a1, by rw [ug_ne (by omega)]; exact a2, a3, fun k hk => by rw [ug_ne (by omega)]; exact a4 k hk⟩⟩, hr1.2.2⟩ (emC_t (F2 _) ⟨fun a x0 x1 x2 x3 x4 x5 x6 x7 => by rw [ug_ne x0], fun k x y z w u => by rw [ug_k x], fun k hk => by rw [ug_ne (by omega)], fun a k x0 x1 x2 x3 x4 => by rw [ug_ne x0]⟩ (Nat.le_refl _) (Nat.le_refl _)) (fun k hk => by rw [ug_ne (by omega), ug_k hk]; exact h89' k hk)
      rw [hlen] at this
      rw [s136_15]
      simp (disch := omega) only [s136_16, s136_18, s136_19, s136_20, s136_21, s136_25, s136_25b, s136_28, s136_29, s136_29b, s136_30, s136_33, m136_34, s136_37, s136_38, m136_39, s136_40, m136_41, s136_44, m136_45, s136_48, s136_48b, s136_51, s136_52, s136_52b, s136_53, s136_54, s136_56, s136_56b, s136_59, s136_60, s136_65, s136_65b, s136_68, s136_69, s136_69b, Int.toNat_natCast, Int.toNat_natCast, Nat.reduceAdd, Nat.reduceMul, Int.reduceToNat, Int.reduceAdd, Int.reduceLT, Int.reduceLE, Int.reduceEq, Int.reduceNeg, Int.reduceMul, Int.reduceSub, Nat.reduceSub, reduceIte, ite_true, ite_false, and_true, true_and, and_self, ec, en, m136_22 s1, ug_ne, a1, hm1.1, c1f, l9, if_false, m136_62 h124]
      exact this
theorem lp136 {d f n N L : Nat} {B : q_Bv} {nx : Nat → Int} {G0 : q_Gi} (hd : 9 ≤ d) (hf : f < 6) : ∀ (k p S0 : Nat) (rc : List (Int × Int × List Int)) (G : q_Gi), gtH f n N L B nx G0 d k p S0 rc G := by
  intro k
  induction k with
  | zero => intro p S0 rc G; exact st136 hd hf 0 p S0 rc G (fun k' p' S0' rc' G' e => by omega)
  | succ k ih => intro p S0 rc G; exact st136 hd hf (k + 1) p S0 rc G (fun k' p' S0' rc' G' e => by
      have : k' = k := by omega
      rw [this]
      exact ih p' S0' rc' G')
theorem updS_X {nx : Nat → Int} {n : Nat} : updS nx n = updX nx n 9 [] 0 := by
  unfold updS updX
  show (if 0 < 0 ∧ ¬ nx 0 = 59 then _ else _) = _
  rw [if_neg (fun h => absurd h.1 (by omega)), if_neg (show ¬ 0 < 0 by omega)]
  rfl
theorem sp136 {d f n N L : Nat} {B : q_Bv} {G : q_Gi} {nx : Nat → Int} (hd : 10 ≤ d) (hf : f < 6) (hm : mrd G n nx) (hl : ltr G) : ∃ r1 X1, Sp d 136 [.ref 82, vI f] (hp N L B G) r1 X1 ∧ gtQ f n N L B (ug (ug G 82 11 0) 82 21 ((100 * f : Nat) : Int)) (updS nx n) r1 X1 := by
  have e1 : (100 : Int) * (f : Int) = ((100 * f : Nat) : Int) := by omega
  have := lp136 (d := d - 1) (f := f) (n := n) (N := N) (L := L) (B := B) (nx := nx) (G0 := ug (ug G 82 11 0) 82 21 ((100 * f : Nat) : Int)) (by omega) hf 9 0 (100 * f) [] (ug (ug G 82 11 0) 82 21 ((100 * f : Nat) : Int)) rfl (mrd_u (mrd_u hm (by omega)) (by omega)) (fun j hj => by rw [ug_ne (by omega), ug_ne (by omega)]; exact hl j hj) (by rw [ug_k (by omega), ug_at]; rfl) (Nat.zero_le _) ug_at (Nat.le_refl _) (Nat.le_refl _) ⟨Nat.zero_le _, fun i hi => absurd hi (Nat.not_lt_zero _), fun r hr => absurd hr List.not_mem_nil⟩ (emC_r _ _ _) (fun k _ => rfl)
  rw [← updS_X] at this
  refine E136 (d := d) (X := hp N L B G) (z1 := (f : Int)) (by omega) ?_
  rw [s136_0]
  simp (disch := omega) only [s136_1, m136_2, s136_5, s136_6, s136_8, s136_9, m136_10, s136_13, s136_14, Int.toNat_natCast, Int.toNat_natCast, Nat.reduceAdd, Nat.reduceMul, Int.reduceToNat, Int.reduceAdd, Int.reduceLT, Int.reduceLE, Int.reduceEq, Int.reduceNeg, Int.reduceMul, Int.reduceSub, Nat.reduceSub, reduceIte, ite_true, ite_false, and_true, true_and, and_self, e1]
  exact this
/-- the model's upland f is told -/
def muB (G : q_Gi) (f : Nat) (rc : List (Int × Int × List Int)) : Prop := G 89 f = (rc.length : Int) ∧ rcs G f (100 * (f + 1)) rc
theorem mu_of {G : q_Gi} {f : Nat} {rc : List (Int × Int × List Int)} (hf : f < 6) (h : muB G f rc) : mu G f rc := ⟨10 * f, by have := h.2.1; omega, h.2.1, Or.inr ⟨f, hf, rfl, rfl, h.1⟩, fun i hi => rcB_W (by omega) (h.2.2.1 i hi), h.2.2.2⟩
theorem muB_C {G G' : q_Gi} {f j : Nat} {rc : List (Int × Int × List Int)} (h : muB G j rc) (hj : j < f) (F : emC (10 * f) (100 * f) G G') (h89 : ∀ k, k ≠ f → G' 89 k = G 89 k) : muB G' j rc := ⟨by rw [h89 j (by omega)]; exact h.1, h.2.1, fun i hi => rcB_C (h.2.2.1 i hi) F (by have := h.2.1; omega) (by omega), h.2.2.2⟩
theorem sp137 {d n uc N L : Nat} {B : q_Bv} {G : q_Gi} {nx : Nat → Int} (hd : 11 ≤ d) (hm : mrd G n nx) (hl : ltr G) (hu : uc ≤ 6) (h8 : G 82 8 = (uc : Int)) : ∃ G', Sp d 137 [.ref 82] (hp N L B G) (some (vI (upA nx uc n))) (hp N L B G') ∧ (¬ uc < 6 → G' = G) ∧ (uc < 6 → G' 82 10 = 0) ∧ (∀ j rc, j < uc → muB G j rc → muB G' j rc) ∧ (uc < 6 ∧ (updS nx n).1 = true → G' 82 8 = ((uc + 1 : Nat) : Int) ∧ G' 82 9 = (uc : Int) ∧ ∃ rc, (updS nx n).2.2 = sumR rc ∧ muB G' uc rc) ∧ (¬ (uc < 6 ∧ (updS nx n).1 = true) → G' 82 8 = G 82 8 ∧ G' 82 9 = G 82 9) ∧ (∀ a, a ≠ 82 → a ≠ 89 → a ≠ 90 → a ≠ 91 → a ≠ 92 → a ≠ 93 → a ≠ 94 → a ≠ 95 → G' a = G a) ∧ (∀ k, k ≠ 8 → k ≠ 9 → k ≠ 10 → k ≠ 11 → k ≠ 12 → k ≠ 21 → k ≠ 22 → k ≠ 23 → G' 82 k = G 82 k) := by
  unfold upA
  by_cases c0 : ¬ uc < 6
  · rw [if_neg c0]
    have h86 : G 82 8 = 6 := by omega
    refine ⟨G, ?_, fun _ => rfl, fun h => absurd h c0, fun j rc hj h => h, fun h => absurd h.1 c0, fun _ => ⟨rfl, rfl⟩, fun _ _ _ _ _ _ _ _ _ => rfl, fun _ _ _ _ _ _ _ _ _ => rfl⟩
    refine e137 (by omega) ?_
    simp (disch := omega) only [s137_0, m137_1, s137_4, s137_6, s137_6b, s137_9, s137_11, s137_12, s137_13, m137_14, s137_20, s137_21, s137_22, m137_23, s137_26, s137_27, s137_27b, s137_30, s137_32, m137_33, s137_36, s137_37, s137_38, s137_39, m137_40, m137_43, s137_46, s137_47, m137_48, s137_51, s137_52, m137_53, s137_56, m137_57, s137_60, Int.toNat_natCast, Int.toNat_natCast, Nat.reduceAdd, Nat.reduceMul, Int.reduceToNat, Int.reduceAdd, Int.reduceLT, Int.reduceLE, Int.reduceEq, Int.reduceNeg, Int.reduceMul, Int.reduceSub, Nat.reduceSub, reduceIte, ite_true, ite_false, and_true, true_and, and_self, h86]
  have c0 : uc < 6 := Decidable.not_not.mp c0
  rw [if_pos c0]
  have c6 := eq_false (show ¬ (uc : Int) = 6 by omega)
  obtain ⟨r1, X1, hS, G1, hr, hX, a1, f1, k1, q1⟩ := sp136 (d := d - 1) (f := uc) (N := N) (L := L) (B := B) (by omega) c0 hm hl
  rw [hr, hX] at hS
  have hb := upd_r hm.2.2.2 10 0 (9, 0, []) 0 (Nat.zero_le _)
  have hn := hm.2.1
  have hb' : (updS nx n).2.1 ≤ n := hb
  have F1 : emC (10 * uc) (100 * uc) G G1 := emC_t (c' := 10 * uc) (S1 := 100 * uc) (G' := ug (ug G 82 11 0) 82 21 ((100 * uc : Nat) : Int)) ⟨fun a x0 x1 x2 x3 x4 x5 x6 x7 => by rw [ug_ne x0, ug_ne x0], fun k x y z w u => by rw [ug_k z, ug_k x], fun k hk => by rw [ug_ne (by omega), ug_ne (by omega)], fun a k x0 x1 x2 x3 x4 => by rw [ug_ne x0, ug_ne x0]⟩ f1 (Nat.le_refl _) (Nat.le_refl _)
  have k1' : ∀ k, k ≠ uc → G1 89 k = G 89 k := fun k hk => by rw [k1 k hk, ug_ne (by omega), ug_ne (by omega)]
  have g8 : G1 82 8 = (uc : Int) := by rw [F1.2.1 8 (by omega) (by omega) (by omega) (by omega) (by omega)]; exact h8
  have fz : ∀ (G2 : q_Gi), (∀ a, a ≠ 82 → G2 a = G1 a) → (∀ k, k ≠ 8 → k ≠ 9 → k ≠ 10 → G2 82 k = G1 82 k) → (∀ (j : Nat) rc, muB G1 j rc → muB G2 j rc) ∧ (∀ a, a ≠ 82 → a ≠ 89 → a ≠ 90 → a ≠ 91 → a ≠ 92 → a ≠ 93 → a ≠ 94 → a ≠ 95 → G2 a = G a) ∧ (∀ k, k ≠ 8 → k ≠ 9 → k ≠ 10 → k ≠ 11 → k ≠ 12 → k ≠ 21 → k ≠ 22 → k ≠ 23 → G2 82 k = G 82 k) := fun G2 h2 h3 => ⟨fun j rc h => ⟨by rw [h2 89 (by omega)]; exact h.1, h.2.1, fun i hi => by
    have := h.2.2.1 i hi
    exact ⟨by rw [h2 90 (by omega)]; exact this.1, by rw [h2 91 (by omega)]; exact this.2.1, fun x => by
      obtain ⟨a, a1, a2, a3, a4⟩ := this.2.2 x
      exact ⟨a, by rw [h2 92 (by omega)]; exact a1, by rw [h2 93 (by omega)]; exact a2, a3, fun k hk => by rw [h2 94 (by omega)]; exact a4 k hk⟩⟩, h.2.2.2⟩, fun a x0 x1 x2 x3 x4 x5 x6 x7 => by rw [h2 a x0, F1.1 a x0 x1 x2 x3 x4 x5 x6 x7], fun k y0 y1 y2 x y z w u => by rw [h3 k y0 y1 y2, F1.2.1 k x y z w u]⟩
  by_cases ok : ¬ (updS nx n).1 = true
  · rw [if_neg ok]
    rw [bI_f ok] at hS
    have z := fz (ug G1 82 10 0) (fun a x => by rw [ug_ne x]) (fun k _ _ x => by rw [ug_k x])
    refine ⟨ug G1 82 10 0, ?_, fun h => absurd c0 h, fun _ => ug_at, fun j rc hj h => z.1 j rc (muB_C h hj F1 k1'), fun h => absurd h.2 ok, fun _ => ⟨by rw [ug_k (by omega), g8, h8], by rw [ug_k (by omega), F1.2.1 9 (by omega) (by omega) (by omega) (by omega) (by omega)]⟩, z.2.1, z.2.2⟩
    refine e137 (by omega) ?_
    simp (disch := omega) only [s137_0, m137_1, s137_4, s137_6, s137_6b, s137_9, s137_11, s137_12, s137_13, m137_14, s137_20, s137_21, s137_22, m137_23, s137_26, s137_27, s137_27b, s137_30, s137_32, m137_33, s137_36, s137_37, s137_38, s137_39, m137_40, m137_43, s137_46, s137_47, m137_48, s137_51, s137_52, m137_53, s137_56, m137_57, s137_60, Int.toNat_natCast, Int.toNat_natCast, Nat.reduceAdd, Nat.reduceMul, Int.reduceToNat, Int.reduceAdd, Int.reduceLT, Int.reduceLE, Int.reduceEq, Int.reduceNeg, Int.reduceMul, Int.reduceSub, Nat.reduceSub, reduceIte, ite_true, ite_false, and_true, true_and, and_self, h8, c6, if_false, m137_17 hS, ug_k, a1]
  · have ok : (updS nx n).1 = true := Decidable.not_not.mp ok
    rw [if_pos ok]
    rw [bI_t ok] at hS
    have z := fz (ug (ug (ug G1 82 10 0) 82 9 (uc : Int)) 82 8 ((uc : Int) + 1)) (fun a x => by rw [ug_ne x, ug_ne x, ug_ne x]) (fun k x y w => by rw [ug_k x, ug_k y, ug_k w])
    obtain ⟨rc, e1, e2, e3⟩ := q1 ok
    refine ⟨ug (ug (ug G1 82 10 0) 82 9 (uc : Int)) 82 8 ((uc : Int) + 1), ?_, fun h => absurd c0 h, fun _ => by rw [ug_k (by omega), ug_k (by omega), ug_at], fun j rc hj h => z.1 j rc (muB_C h hj F1 k1'), fun _ => ⟨ug_at, by rw [ug_k (by omega), ug_at], rc, e1, z.1 uc rc ⟨e3, e2.1, fun i hi => rcB_e (e2.2.1 i hi) (by omega), e2.2.2⟩⟩, fun h => absurd ⟨c0, ok⟩ h, z.2.1, z.2.2⟩
    refine e137 (by omega) ?_
    simp (disch := omega) only [s137_0, m137_1, s137_4, s137_6, s137_6b, s137_9, s137_11, s137_12, s137_13, m137_14, s137_20, s137_21, s137_22, m137_23, s137_26, s137_27, s137_27b, s137_30, s137_32, m137_33, s137_36, s137_37, s137_38, s137_39, m137_40, m137_43, s137_46, s137_47, m137_48, s137_51, s137_52, m137_53, s137_56, m137_57, s137_60, Int.toNat_natCast, Int.toNat_natCast, Nat.reduceAdd, Nat.reduceMul, Int.reduceToNat, Int.reduceAdd, Int.reduceLT, Int.reduceLE, Int.reduceEq, Int.reduceNeg, Int.reduceMul, Int.reduceSub, Nat.reduceSub, reduceIte, ite_true, ite_false, and_true, true_and, and_self, h8, c6, if_false, m137_17 hS, ug_k, g8, ug_at]
