/-! the model reads a clause: what is kept -/
def rcB (G : q_Gi) (e i : Nat) (r : Int × Int × List Int) : Prop := G 90 i = r.1 ∧ G 91 i = r.2.1 ∧ (r.1 ≤ 1 → ∃ a : Nat, G 92 i = (a : Int) ∧ G 93 i = ((a + r.2.2.length : Nat) : Int) ∧ a + r.2.2.length ≤ e ∧ ∀ k, k < r.2.2.length → G 94 (a + k) = mtk (r.2.2.getD k 0))
theorem rcB_W {G : q_Gi} {e i : Nat} {r : Int × Int × List Int} (he : e ≤ 600) (h : rcB G e i r) : rcW G i r := ⟨h.1, h.2.1, fun x => by
  obtain ⟨a, a1, a2, a3, a4⟩ := h.2.2 x
  exact ⟨a, a1, a2, by omega, a4⟩⟩
/-- all that lies before the clause c and its steps stays -/
def emC (c S0 : Nat) (G G' : q_Gi) : Prop := (∀ a, a ≠ 82 → a ≠ 89 → a ≠ 90 → a ≠ 91 → a ≠ 92 → a ≠ 93 → a ≠ 94 → a ≠ 95 → G' a = G a) ∧ (∀ k, k ≠ 11 → k ≠ 12 → k ≠ 21 → k ≠ 22 → k ≠ 23 → G' 82 k = G 82 k) ∧ (∀ k, k < S0 → G' 94 k = G 94 k) ∧ ∀ a k, a ≠ 82 → a ≠ 89 → a ≠ 94 → a ≠ 95 → k < c → G' a k = G a k
theorem emC_r (c S0 : Nat) (G : q_Gi) : emC c S0 G G := ⟨fun _ _ _ _ _ _ _ _ _ => rfl, fun _ _ _ _ _ _ => rfl, fun _ _ => rfl, fun _ _ _ _ _ _ _ => rfl⟩
theorem emC_t {c c' S0 S1 : Nat} {G G' G'' : q_Gi} (h1 : emC c S0 G G') (h2 : emC c' S1 G' G'') (hc : c ≤ c') (hS : S0 ≤ S1) : emC c S0 G G'' := ⟨fun a x0 x1 x2 x3 x4 x5 x6 x7 => (h2.1 a x0 x1 x2 x3 x4 x5 x6 x7).trans (h1.1 a x0 x1 x2 x3 x4 x5 x6 x7), fun k x y z w u => (h2.2.1 k x y z w u).trans (h1.2.1 k x y z w u), fun k x => (h2.2.2.1 k (by omega)).trans (h1.2.2.1 k x), fun a k x0 x1 x2 x3 x4 => (h2.2.2.2 a k x0 x1 x2 x3 (by omega)).trans (h1.2.2.2 a k x0 x1 x2 x3 x4)⟩
theorem rcB_C {G G' : q_Gi} {c S0 e i : Nat} {r : Int × Int × List Int} (h : rcB G e i r) (f : emC c S0 G G') (hi : i < c) (he : e ≤ S0) : rcB G' e i r := by
  refine ⟨by rw [f.2.2.2 90 i (by omega) (by omega) (by omega) (by omega) hi]; exact h.1, by rw [f.2.2.2 91 i (by omega) (by omega) (by omega) (by omega) hi]; exact h.2.1, fun x => ?_⟩
  obtain ⟨a, a1, a2, a3, a4⟩ := h.2.2 x
  exact ⟨a, by rw [f.2.2.2 92 i (by omega) (by omega) (by omega) (by omega) hi]; exact a1, by rw [f.2.2.2 93 i (by omega) (by omega) (by omega) (by omega) hi]; exact a2, a3, fun k hk => by rw [f.2.2.1 _ (by omega)]; exact a4 k hk⟩
theorem rcB_e {G : q_Gi} {e e' i : Nat} {r : Int × Int × List Int} (h : rcB G e i r) (he : e ≤ e') : rcB G e' i r := ⟨h.1, h.2.1, fun x => by
  obtain ⟨a, a1, a2, a3, a4⟩ := h.2.2 x
  exact ⟨a, a1, a2, by omega, a4⟩⟩
theorem emC_m {c S0 n : Nat} {G G' : q_Gi} {nx : Nat → Int} (h : emC c S0 G G') (hm : mrd G n nx) : mrd G' n nx := ⟨by rw [h.2.1 10 (by omega) (by omega) (by omega) (by omega) (by omega)]; exact hm.1, hm.2.1, by rw [h.1 88 (by omega) (by omega) (by omega) (by omega) (by omega) (by omega) (by omega) (by omega)]; exact hm.2.2.1, hm.2.2.2⟩
theorem emC_l {c S0 : Nat} {G G' : q_Gi} (h : emC c S0 G G') (hl : ltr G) : ltr G' := fun j hj => by rw [h.1 96 (by omega) (by omega) (by omega) (by omega) (by omega) (by omega) (by omega) (by omega)]; exact hl j hj
theorem hdL_c {nx : Nat → Int} {p : Nat} : ∀ c, c ∈ hdL nx p → 0 ≤ c := by
  unfold hdL
  by_cases c1 : nx p = 116
  · rw [if_pos c1]; exact wdT_c
  rw [if_neg c1]
  by_cases c2 : nx p = 103
  · rw [if_pos c2]; exact wdG_c
  rw [if_neg c2]
  by_cases c3 : nx (p + 1) = 105
  · rw [if_pos c3]; exact wdI_c
  · rw [if_neg c3]; exact wdO_c
theorem hdW_r {nx : Nat → Int} {p : Nat} : 0 ≤ hdW nx p ∧ hdW nx p ≤ 3 := by
  unfold hdW
  repeat' split
  all_goals omega
theorem mcl_g {nx : Nat → Int} {n p : Nat} (h : txt nx n) (hp : p ≤ n) : p ≤ (mclS nx p).2.1 ∧ (mclS nx p).2.1 ≤ n ∧ ((mclS nx p).1 = true → rcOK (mclS nx p).2.2 ∧ p + (mclS nx p).2.2.2.2.length ≤ (mclS nx p).2.1) := by
  have g := nb_g h (hdL nx p) p hdL_c hp
  have w := hdW_r (nx := nx) (p := p)
  unfold mclS
  by_cases c1 : (nbS nx (hdL nx p) p).1 < 0
  · rw [if_pos c1]; exact ⟨g.1, g.2.1, fun e => absurd e Bool.false_ne_true⟩
  rw [if_neg c1]
  by_cases c2 : 2 ≤ hdW nx p
  · rw [if_pos c2]; exact ⟨g.1, g.2.1, fun _ => ⟨⟨w, ⟨by simp only []; omega, g.2.2.2⟩, fun e => absurd e (by simp only []; omega)⟩, g.1⟩⟩
  rw [if_neg c2]
  by_cases c3 : nx (nbS nx (hdL nx p) p).2 = 32
  · rw [if_pos c3]
    have l := txt_lt h (by decide) c3
    have gE := eit_g h (one_g h 4) ((nbS nx (hdL nx p) p).2 + 1) (by omega)
    by_cases c4 : (eitS nx (oneS nx 4) ((nbS nx (hdL nx p) p).2 + 1)).1 = true
    · rw [if_pos c4]
      refine ⟨by simp only []; omega, by simp only []; omega, fun _ => ⟨⟨w, ⟨by simp only []; omega, g.2.2.2⟩, fun _ => ?_⟩, by simp only []; omega⟩⟩
      have := eit_ok (one_ok h 4 12 rfl) ((nbS nx (hdL nx p) p).2 + 1) 0 [] c4 (by decide) rfl
      rw [List.append_nil] at this
      exact this
    · rw [if_neg c4]; exact ⟨by simp only []; omega, by simp only []; omega, fun e => absurd e Bool.false_ne_true⟩
  · rw [if_neg c3]; exact ⟨g.1, g.2.1, fun e => absurd e Bool.false_ne_true⟩
theorem sp135 {d c S0 n p N L : Nat} {B : q_Bv} {G : q_Gi} {nx : Nat → Int} (hd : 8 ≤ d) (hc : c < 60) (hm : mrd G n nx) (hl : ltr G) (ha : G 82 11 = (p : Int)) (hpn : p ≤ n) (hs : G 82 21 = (S0 : Int)) (hl0 : S0 ≤ 500 + p) : ∃ G', Sp d 135 [.ref 82, vI c] (hp N L B G) (some (vI (bI ((mclS nx p).1 = true)))) (hp N L B G') ∧ G' 82 11 = ((mclS nx p).2.1 : Int) ∧ emC c S0 G G' ∧ (∀ k, G' 89 k = G 89 k) ∧ ((mclS nx p).1 = true → rcB G' (S0 + (mclS nx p).2.2.2.2.length) c (mclS nx p).2.2 ∧ G' 82 21 = ((S0 + (mclS nx p).2.2.2.2.length : Nat) : Int)) := by
  have ht := hm.2.2.2
  have h134 := sp134 (d := d - 1) (c := c) (N := N) (L := L) (B := B) (by omega) hc hm hl ha hpn
  have gw := wrd_g ht (hdL nx p) p hdL_c hpn
  have w := hdW_r (nx := nx) (p := p)
  have hm1 : mrd (ug (ug G 90 c (hdW nx p)) 82 11 ((wrdS nx (hdL nx p) p).2 : Nat)) n nx := mrd_u (mrd_n hm (by omega) (by omega)) (by omega)
  have F1 : emC c S0 G (ug (ug G 90 c (hdW nx p)) 82 11 ((wrdS nx (hdL nx p) p).2 : Nat)) := ⟨fun a x0 x1 x2 x3 x4 x5 x6 x7 => by rw [ug_ne x0, ug_ne x2], fun k x y z w u => by rw [ug_k x, ug_ne (by omega)], fun k hk => by rw [ug_ne (by omega), ug_ne (by omega)], fun a k x0 x1 x2 x3 x4 => by rw [ug_ne x0, ug_k (by omega)]⟩
  by_cases c0 : ¬ (wrdS nx (hdL nx p) p).1 = true
  · have e1 : nbS nx (hdL nx p) p = (-1, (wrdS nx (hdL nx p) p).2) := by unfold nbS; rw [if_neg c0]
    have e2 : mclS nx p = (false, (wrdS nx (hdL nx p) p).2, rc0) := by
      unfold mclS
      rw [e1, if_pos (show ((-1 : Int), (wrdS nx (hdL nx p) p).2).1 < 0 from (by decide : (-1 : Int) < 0))]
    rw [bI_f c0] at h134
    rw [e2, bI_f (show ¬ (false, (wrdS nx (hdL nx p) p).2, rc0).1 = true from Bool.false_ne_true)]
    refine ⟨_, ?_, ug_at, F1, fun k => by rw [ug_ne (by omega), ug_ne (by omega)], fun e => absurd e Bool.false_ne_true⟩
    refine e135 (by omega) ?_
    simp (disch := omega) only [s135_0, s135_1, s135_5, s135_5b, s135_8, s135_12, s135_12b, s135_15, s135_16, s135_16b, s135_17, m135_18, s135_21, s135_22, m135_23, m135_26, s135_27, m135_28, s135_31, m135_32, s135_33, s135_34, s135_37, s135_38, s135_43, s135_43b, s135_46, s135_47, s135_51, s135_51b, s135_54, s135_55, s135_58, s135_59, s135_59b, Int.toNat_natCast, Int.toNat_natCast, Nat.reduceAdd, Nat.reduceMul, Int.reduceToNat, Int.reduceAdd, Int.reduceLT, Int.reduceLE, Int.reduceEq, Int.reduceNeg, Int.reduceMul, Int.reduceSub, Nat.reduceSub, reduceIte, ite_true, ite_false, and_true, true_and, and_self, m135_2 h134]
  have c0 : (wrdS nx (hdL nx p) p).1 = true := Decidable.not_not.mp c0
  have e1 : nbS nx (hdL nx p) p = numS nx (wrdS nx (hdL nx p) p).2 := by unfold nbS; rw [if_pos c0]
  rw [bI_t c0] at h134
  obtain ⟨G2, s2, a2, dg2, f1, f2⟩ := sp127 (d := d - 1) (p := (wrdS nx (hdL nx p) p).2) (N := N) (L := L) (B := B) (by omega) hm1 ug_at gw.2
  have gn := num_g ht gw.2
  rw [← e1] at s2 a2 dg2 gn
  have F2 : emC c S0 G G2 := ⟨fun a x0 x1 x2 x3 x4 x5 x6 x7 => by rw [f1 a x0, ug_ne x0, ug_ne x2], fun k x y z w u => by rw [f2 k x y, ug_k x, ug_ne (by omega)], fun k hk => by rw [f1 94 (by omega), ug_ne (by omega), ug_ne (by omega)], fun a k x0 x1 x2 x3 x4 => by rw [f1 a x0, ug_ne x0, ug_k (by omega)]⟩
  have g89 : ∀ k, G2 89 k = G 89 k := fun k => by rw [f1 89 (by omega), ug_ne (by omega), ug_ne (by omega)]
  have g90 : G2 90 c = hdW nx p := by rw [f1 90 (by omega), ug_ne (by omega), ug_at]
  unfold mclS
  by_cases c1 : (nbS nx (hdL nx p) p).1 < 0
  · rw [bI_f (show ¬ 0 ≤ (nbS nx (hdL nx p) p).1 by omega)] at s2
    rw [if_pos c1, bI_f (show ¬ (false, (nbS nx (hdL nx p) p).2, rc0).1 = true from Bool.false_ne_true)]
    refine ⟨G2, ?_, a2, F2, g89, fun e => absurd e Bool.false_ne_true⟩
    refine e135 (by omega) ?_
    simp (disch := omega) only [s135_0, s135_1, s135_5, s135_5b, s135_8, s135_12, s135_12b, s135_15, s135_16, s135_16b, s135_17, m135_18, s135_21, s135_22, m135_23, m135_26, s135_27, m135_28, s135_31, m135_32, s135_33, s135_34, s135_37, s135_38, s135_43, s135_43b, s135_46, s135_47, s135_51, s135_51b, s135_54, s135_55, s135_58, s135_59, s135_59b, Int.toNat_natCast, Int.toNat_natCast, Nat.reduceAdd, Nat.reduceMul, Int.reduceToNat, Int.reduceAdd, Int.reduceLT, Int.reduceLE, Int.reduceEq, Int.reduceNeg, Int.reduceMul, Int.reduceSub, Nat.reduceSub, reduceIte, ite_true, ite_false, and_true, true_and, and_self, m135_2 h134, m135_9 s2]
  have c1' : 0 ≤ (nbS nx (hdL nx p) p).1 := by omega
  rw [if_neg c1]
  rw [bI_t c1'] at s2
  have d2 := dg2 c1'
  have F3 : emC c S0 G (ug G2 91 c (nbS nx (hdL nx p) p).1) := emC_t F2 ⟨fun a x0 x1 x2 x3 x4 x5 x6 x7 => by rw [ug_ne x3], fun k x y z w u => by rw [ug_ne (by omega)], fun k hk => by rw [ug_ne (by omega)], fun a k x0 x1 x2 x3 x4 => by rw [ug_k (by omega)]⟩ (Nat.le_refl _) (Nat.le_refl _)
  have g21 : ug G2 91 c (nbS nx (hdL nx p) p).1 82 21 = (S0 : Int) := by rw [ug_ne (by omega), f2 21 (by omega) (by omega), ug_k (by omega), ug_ne (by omega)]; exact hs
  have a3 : ug G2 91 c (nbS nx (hdL nx p) p).1 82 11 = ((nbS nx (hdL nx p) p).2 : Int) := by rw [ug_ne (by omega)]; exact a2
  have g90' : ug G2 91 c (nbS nx (hdL nx p) p).1 90 c = hdW nx p := by rw [ug_ne (by omega)]; exact g90
  have m3 : mrd (ug G2 91 c (nbS nx (hdL nx p) p).1) n nx := emC_m F3 hm
  by_cases c2 : 2 ≤ hdW nx p
  · rw [if_pos c2, bI_t (show (true, (nbS nx (hdL nx p) p).2, hdW nx p, (nbS nx (hdL nx p) p).1, ([] : List Int)).1 = true from rfl)]
    have c2t := eq_false (show ¬ hdW nx p < 2 by omega)
    refine ⟨_, ?_, a3, F3, fun k => by rw [ug_ne (by omega)]; exact g89 k, fun _ => ⟨⟨g90', ug_at, fun x => absurd x (by simp only []; omega)⟩, g21⟩⟩
    refine e135 (by omega) ?_
    simp (disch := omega) only [s135_0, s135_1, s135_5, s135_5b, s135_8, s135_12, s135_12b, s135_15, s135_16, s135_16b, s135_17, m135_18, s135_21, s135_22, m135_23, m135_26, s135_27, m135_28, s135_31, m135_32, s135_33, s135_34, s135_37, s135_38, s135_43, s135_43b, s135_46, s135_47, s135_51, s135_51b, s135_54, s135_55, s135_58, s135_59, s135_59b, Int.toNat_natCast, Int.toNat_natCast, Nat.reduceAdd, Nat.reduceMul, Int.reduceToNat, Int.reduceAdd, Int.reduceLT, Int.reduceLE, Int.reduceEq, Int.reduceNeg, Int.reduceMul, Int.reduceSub, Nat.reduceSub, reduceIte, ite_true, ite_false, and_true, true_and, and_self, m135_2 h134, m135_9 s2, d2, g90', c2t, if_false]
  rw [if_neg c2]
  have c2f := eq_true (show hdW nx p < 2 by omega)
  by_cases c3 : ¬ nx (nbS nx (hdL nx p) p).2 = 32
  · rw [if_neg c3, bI_f (show ¬ (false, (nbS nx (hdL nx p) p).2, rc0).1 = true from Bool.false_ne_true)]
    have h124 := sp124_f (d := d - 1) (c := 32) (N := N) (L := L) (B := B) (by omega) m3 a3 gn.2.1 (by omega) c3
    refine ⟨_, ?_, a3, F3, fun k => by rw [ug_ne (by omega)]; exact g89 k, fun e => absurd e Bool.false_ne_true⟩
    refine e135 (by omega) ?_
    simp (disch := omega) only [s135_0, s135_1, s135_5, s135_5b, s135_8, s135_12, s135_12b, s135_15, s135_16, s135_16b, s135_17, m135_18, s135_21, s135_22, m135_23, m135_26, s135_27, m135_28, s135_31, m135_32, s135_33, s135_34, s135_37, s135_38, s135_43, s135_43b, s135_46, s135_47, s135_51, s135_51b, s135_54, s135_55, s135_58, s135_59, s135_59b, Int.toNat_natCast, Int.toNat_natCast, Nat.reduceAdd, Nat.reduceMul, Int.reduceToNat, Int.reduceAdd, Int.reduceLT, Int.reduceLE, Int.reduceEq, Int.reduceNeg, Int.reduceMul, Int.reduceSub, Nat.reduceSub, reduceIte, ite_true, ite_false, and_true, true_and, and_self, m135_2 h134, m135_9 s2, d2, g90', c2f, if_true, m135_40 h124]
  have c3 : nx (nbS nx (hdL nx p) p).2 = 32 := Decidable.not_not.mp c3
  rw [if_pos c3]
  have l3 := txt_lt ht (by decide) c3
  have h124 := sp124_t (d := d - 1) (c := 32) (N := N) (L := L) (B := B) (by omega) m3 a3 gn.2.1 (by omega) c3
  obtain ⟨G4, s4, a4, f4, f5, f6, f7, f8, f9⟩ := sp133 (d := d - 1) (c := c) (p := (nbS nx (hdL nx p) p).2 + 1) (S0 := S0) (N := N) (L := L) (B := B) (by omega) hc (mrd_u m3 (by omega)) ug_at (by omega) (by rw [ug_k (by omega)]; exact g21) (by omega)
  have F4 : emC c S0 G G4 := emC_t F3 ⟨fun a x0 x1 x2 x3 x4 x5 x6 x7 => by rw [f4 a x0 x4 x5 x6 x7, ug_ne x0], fun k x y z w u => by rw [f5 k x y z w u, ug_k x], fun k hk => by rw [f6 k hk, ug_ne (by omega)], fun a k x0 x1 x2 x3 x4 => by
    by_cases b1 : a = 92
    · rw [b1, (f7 k (by omega)).2, ug_ne (by omega)]
    by_cases b2 : a = 93
    · rw [b2, (f7 k (by omega)).1, ug_ne (by omega)]
    rw [f4 a x0 b1 b2 x2 x3, ug_ne x0]⟩ (Nat.le_refl _) (Nat.le_refl _)
  have g89' : ∀ k, G4 89 k = G 89 k := fun k => by rw [f4 89 (by omega) (by omega) (by omega) (by omega) (by omega), ug_ne (by omega), ug_ne (by omega)]; exact g89 k
  by_cases c4 : (eitS nx (oneS nx 4) ((nbS nx (hdL nx p) p).2 + 1)).1 = true
  · rw [if_pos c4, bI_t (show (true, (eitS nx (oneS nx 4) ((nbS nx (hdL nx p) p).2 + 1)).2.1, hdW nx p, (nbS nx (hdL nx p) p).1, (eitS nx (oneS nx 4) ((nbS nx (hdL nx p) p).2 + 1)).2.2).1 = true from rfl)]
    rw [bI_t c4] at s4
    obtain ⟨q1, q2⟩ := f9 c4
    refine ⟨G4, ?_, a4, F4, g89', fun _ => ⟨⟨by rw [f4 90 (by omega) (by omega) (by omega) (by omega) (by omega), ug_ne (by omega)]; exact g90', by rw [f4 91 (by omega) (by omega) (by omega) (by omega) (by omega), ug_ne (by omega), ug_at], fun _ => ⟨S0, f8, q1, Nat.le_refl _, q2.2⟩⟩, q2.1⟩⟩
    refine e135 (by omega) ?_
    simp (disch := omega) only [s135_0, s135_1, s135_5, s135_5b, s135_8, s135_12, s135_12b, s135_15, s135_16, s135_16b, s135_17, m135_18, s135_21, s135_22, m135_23, m135_26, s135_27, m135_28, s135_31, m135_32, s135_33, s135_34, s135_37, s135_38, s135_43, s135_43b, s135_46, s135_47, s135_51, s135_51b, s135_54, s135_55, s135_58, s135_59, s135_59b, Int.toNat_natCast, Int.toNat_natCast, Nat.reduceAdd, Nat.reduceMul, Int.reduceToNat, Int.reduceAdd, Int.reduceLT, Int.reduceLE, Int.reduceEq, Int.reduceNeg, Int.reduceMul, Int.reduceSub, Nat.reduceSub, reduceIte, ite_true, ite_false, and_true, true_and, and_self, m135_2 h134, m135_9 s2, d2, g90', c2f, if_true, m135_40 h124, m135_48 s4]
  · rw [if_neg c4, bI_f (show ¬ (false, (eitS nx (oneS nx 4) ((nbS nx (hdL nx p) p).2 + 1)).2.1, rc0).1 = true from Bool.false_ne_true)]
    rw [bI_f c4] at s4
    refine ⟨G4, ?_, a4, F4, g89', fun e => absurd e Bool.false_ne_true⟩
    refine e135 (by omega) ?_
    simp (disch := omega) only [s135_0, s135_1, s135_5, s135_5b, s135_8, s135_12, s135_12b, s135_15, s135_16, s135_16b, s135_17, m135_18, s135_21, s135_22, m135_23, m135_26, s135_27, m135_28, s135_31, m135_32, s135_33, s135_34, s135_37, s135_38, s135_43, s135_43b, s135_46, s135_47, s135_51, s135_51b, s135_54, s135_55, s135_58, s135_59, s135_59b, Int.toNat_natCast, Int.toNat_natCast, Nat.reduceAdd, Nat.reduceMul, Int.reduceToNat, Int.reduceAdd, Int.reduceLT, Int.reduceLE, Int.reduceEq, Int.reduceNeg, Int.reduceMul, Int.reduceSub, Nat.reduceSub, reduceIte, ite_true, ite_false, and_true, true_and, and_self, m135_2 h134, m135_9 s2, d2, g90', c2f, if_true, m135_40 h124, m135_48 s4]
/-- the model reads a whole text -/
def updX (nx : Nat → Int) (n k : Nat) (rc : List (Int × Int × List Int)) (p : Nat) : Bool × Nat × Int × Int × List (Int × List Int) := if (clzS nx (sumR rc) p).1 = true then (if (clzS nx (sumR rc) p).2.1 = n then (true, n, (clzS nx (sumR rc) p).2.2) else updL nx n k (rc.length + 1) (clzS nx (sumR rc) p).2.2 (clzS nx (sumR rc) p).2.1) else (false, (clzS nx (sumR rc) p).2.1, (clzS nx (sumR rc) p).2.2)
def tksR (rc : List (Int × Int × List Int)) : Nat := (rc.map (fun r => r.2.2.length)).sum
/-- the clauses of the upland f, so far -/
def rcs (G : q_Gi) (f e : Nat) (rc : List (Int × Int × List Int)) : Prop := rc.length ≤ 10 ∧ (∀ i, i < rc.length → rcB G e (10 * f + i) (rc.getD i rc0)) ∧ ∀ r, r ∈ rc → rcOK r
theorem getD_l3 {l : List (Int × Int × List Int)} {x : Int × Int × List Int} {k : Nat} (h : k < l.length) : (l ++ [x]).getD k rc0 = l.getD k rc0 := by
  rw [List.getD_eq_getElem?_getD, List.getD_eq_getElem?_getD, List.getElem?_append_left h]
theorem getD_e3 {l : List (Int × Int × List Int)} {x : Int × Int × List Int} : (l ++ [x]).getD l.length rc0 = x := by
  rw [List.getD_eq_getElem?_getD, List.getElem?_append_right (Nat.le_refl _), Nat.sub_self]; rfl
theorem rcs_app {G G' : q_Gi} {f S0 e' : Nat} {rc : List (Int × Int × List Int)} {r : Int × Int × List Int} (h : rcs G f S0 rc) (hl : rc.length < 10) (F : emC (10 * f + rc.length) S0 G G') (hr : rcB G' e' (10 * f + rc.length) r) (ho : rcOK r) (he : S0 ≤ e') : rcs G' f e' (rc ++ [r]) := by
  refine ⟨by rw [List.length_append, List.length_cons, List.length_nil]; omega, fun i hi => ?_, fun x hx => ?_⟩
  · rw [List.length_append, List.length_cons, List.length_nil] at hi
    by_cases c : i = rc.length
    · rw [c, getD_e3]; exact hr
    · rw [getD_l3 (by omega)]; exact rcB_e (rcB_C (h.2.1 i (by omega)) F (by omega) (Nat.le_refl _)) he
  · rcases List.mem_append.mp hx with hx | hx
    · exact h.2.2 x hx
    · rw [List.mem_singleton] at hx
      rw [hx]; exact ho
def gtQ (f n N L : Nat) (B : q_Bv) (G0 : q_Gi) (R : Bool × Nat × Int × Int × List (Int × List Int)) (r1 : Option Value) (X1 : q_H) : Prop := ∃ G', r1 = some (vI (bI (R.1 = true))) ∧ X1 = hp N L B G' ∧ G' 82 11 = (R.2.1 : Int) ∧ emC (10 * f) (100 * f) G0 G' ∧ (∀ k, k ≠ f → G' 89 k = G0 89 k) ∧ (R.1 = true → ∃ rc, R.2.2 = sumR rc ∧ rcs G' f (100 * f + n) rc ∧ G' 89 f = (rc.length : Int))
theorem lp136 {d f n N L : Nat} {B : q_Bv} {nx : Nat → Int} {G0 : q_Gi} (hd : 9 ≤ d) (hf : f < 6) : ∀ (k p S0 : Nat) (rc : List (Int × Int × List Int)) (G : q_Gi), rc.length + (k + 1) = 10 → mrd G n nx → ltr G → G 82 11 = (p : Int) → p ≤ n → G 82 21 = (S0 : Int) → 100 * f ≤ S0 → S0 ≤ 100 * f + p → rcs G f S0 rc → emC (10 * f) (100 * f) G0 G → (∀ k, k ≠ f → G 89 k = G0 89 k) → WP d 136 15 [.ref 82, vI f, vI (rc.length : Nat)] [] (hp N L B G) (gtQ f n N L B G0 (updX nx n k rc p)) := by
  intro k
  induction k with
  | zero =>
    intro p S0 rc G hk hm hl ha hpn hs hS1 hS2 hr hF h89
    sorry
  | succ k ih =>
    intro p S0 rc G hk hm hl ha hpn hs hS1 hS2 hr hF h89
    sorry
