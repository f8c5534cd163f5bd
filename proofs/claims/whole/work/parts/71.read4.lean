/-! the class reads a clause and a text -/
def likS (nx : Nat → Int) (st : Int × Int × List (Int × List Int)) (w : List Int) (sg : Int → Int) (p : Nat) : Bool × Nat × Int × Int × List (Int × List Int) :=
  if (nbS nx w p).1 < 0 then (false, (nbS nx w p).2, st) else if nx (nbS nx w p).2 = 32 then
    (if (eitS nx (oneS nx 4) ((nbS nx w p).2 + 1)).1 = true then (true, (eitS nx (oneS nx 4) ((nbS nx w p).2 + 1)).2.1, st.1, st.2.1, st.2.2 ++ [(sg (nbS nx w p).1, (eitS nx (oneS nx 4) ((nbS nx w p).2 + 1)).2.2)]) else (false, (eitS nx (oneS nx 4) ((nbS nx w p).2 + 1)).2.1, st)) else (false, (nbS nx w p).2, st)
def sgO (z : Int) : Int := -z
def sgI (z : Int) : Int := z
def clzS (nx : Nat → Int) (st : Int × Int × List (Int × List Int)) (p : Nat) : Bool × Nat × Int × Int × List (Int × List Int) :=
  if nx p = 116 then (decide (0 ≤ (nbS nx wdT p).1), (nbS nx wdT p).2, (nbS nx wdT p).1, st.2.1, st.2.2)
  else if nx p = 103 then (decide (0 ≤ (nbS nx wdG p).1), (nbS nx wdG p).2, st.1, (nbS nx wdG p).1, st.2.2)
  else if nx (p + 1) = 111 then likS nx st wdO sgO p else likS nx st wdI sgI p
/-- an upland with its arrays -/
def sho (B : q_Bv) (u : Nat) : Prop := B u 3 = .ref (u + 1) ∧ B u 4 = .ref (u + 2) ∧ B u 6 = .ref (u + 3)
def flat (cl : List (Int × List Int)) : List Int := cl.flatMap (fun c => c.2)
/-- an upland while its text is read -/
def upw (B : q_Bv) (u : Nat) (st : Int × Int × List (Int × List Int)) : Prop := B u 0 = vI st.1 ∧ B u 1 = vI st.2.1 ∧ B u 2 = vI (st.2.2.length : Int) ∧ B u 3 = .ref (u + 1) ∧ B u 4 = .ref (u + 2) ∧ stp B u (flat st.2.2) ∧ ∀ i, i < st.2.2.length → B (u + 1) i = vI (st.2.2.getD i (0, [])).1 ∧ B (u + 2) i = vI ((flat (st.2.2.take (i + 1))).length : Int)
/-- all but the upland u stays -/
def frU (B B' : q_Bv) (u : Nat) : Prop := ∀ a, a ≠ u → a ≠ u + 1 → a ≠ u + 2 → a ≠ u + 3 → B' a = B a
theorem frU_r (B : q_Bv) (u : Nat) : frU B B u := fun _ _ _ _ _ => rfl
theorem frU_t {B B' B'' : q_Bv} {u : Nat} (h1 : frU B B' u) (h2 : frU B' B'' u) : frU B B'' u := fun a x y z w => (h2 a x y z w).trans (h1 a x y z w)
theorem frU_of {B B' : q_Bv} {u : Nat} (h : fru B B' u) : frU B B' u := fun a x _ _ w => funext fun k => h a k (fun e => x e.1) w
theorem upw_sho {B : q_Bv} {u : Nat} {st : Int × Int × List (Int × List Int)} (h : upw B u st) : sho B u := ⟨h.2.2.2.1, h.2.2.2.2.1, h.2.2.2.2.2.1.1⟩
theorem sho_fru {B B' : q_Bv} {u : Nat} (h : sho B u) (f : fru B B' u) : sho B' u := ⟨by rw [f u 3 (by omega) (by omega)]; exact h.1, by rw [f u 4 (by omega) (by omega)]; exact h.2.1, by rw [f u 6 (by omega) (by omega)]; exact h.2.2⟩
theorem upw_g {B : q_Bv} {u k : Nat} {z : Int} (hk : k = 0 ∨ k = 1) {st : Int × Int × List (Int × List Int)} (h : upw B u st) : upw (up B u k (vI z)) u (if k = 0 then z else st.1, if k = 1 then z else st.2.1, st.2.2) := by
  obtain ⟨h0, h1, h2, h3, h4, ⟨h6, h5, hs⟩, ha⟩ := h
  refine ⟨?_, ?_, ?_, ?_, ?_, ⟨?_, ?_, ?_⟩, ?_⟩
  · rcases hk with rfl | rfl
    · rw [up_at]; rfl
    · rw [up_k (by omega)]; exact h0
  · rcases hk with rfl | rfl
    · rw [up_k (by omega)]; exact h1
    · rw [up_at]; rfl
  · rw [up_k (by omega)]; exact h2
  · rw [up_k (by omega)]; exact h3
  · rw [up_k (by omega)]; exact h4
  · rw [up_k (by omega)]; exact h6
  · rw [up_k (by omega)]; exact h5
  · intro j hj; rw [up_ne (by omega)]; exact hs j hj
  · intro i hi; rw [up_ne (by omega), up_ne (by omega)]; exact ha i hi
theorem flat_app (cl : List (Int × List Int)) (a : Int) (l : List Int) : flat (cl ++ [(a, l)]) = flat cl ++ l := by
  unfold flat
  rw [List.flatMap_append, List.flatMap_cons, List.flatMap_nil, List.append_nil]
theorem getD_l2 {l : List (Int × List Int)} {x : Int × List Int} {k : Nat} (h : k < l.length) : (l ++ [x]).getD k (0, []) = l.getD k (0, []) := by
  rw [List.getD_eq_getElem?_getD, List.getD_eq_getElem?_getD, List.getElem?_append_left h]
theorem getD_e2 {l : List (Int × List Int)} {x : Int × List Int} : (l ++ [x]).getD l.length (0, []) = x := by
  rw [List.getD_eq_getElem?_getD, List.getElem?_append_right (Nat.le_refl _), Nat.sub_self]; rfl
/-- the E of a likes has come to its end -/
theorem sp49 {d u N L : Nat} {z t g : Int} {cl : List (Int × List Int)} {l : List Int} {B B1 : q_Bv} {G : q_Gi} (hd : 1 ≤ d) (hu : uar u N) (h : upw B u (t, g, cl)) (hf : fru B B1 u) (hs : stp B1 u (flat cl ++ l)) (hc : cl.length < 10) : ∃ B', Sp d 49 [.ref u, vI z] (hp N L B1 G) none (hp N L B' G) ∧ upw B' u (t, g, cl ++ [(z, l)]) ∧ frU B1 B' u := by
  obtain ⟨u1, u2, u3, u4, u5, u6, u7⟩ := hu
  obtain ⟨h0, h1, h2, h3, h4, _, ha⟩ := h
  rw [← hf u 0 (by omega) (by omega)] at h0
  rw [← hf u 1 (by omega) (by omega)] at h1
  rw [← hf u 2 (by omega) (by omega)] at h2
  rw [← hf u 3 (by omega) (by omega)] at h3
  rw [← hf u 4 (by omega) (by omega)] at h4
  obtain ⟨s6, s5, ss⟩ := hs
  change B1 u 2 = vI (cl.length : Int) at h2
  have hc2 : (cl.length : Int) < 10 := by omega
  refine ⟨up (up (up B1 (u + 1) cl.length (vI z)) (u + 2) cl.length (vI ((flat cl ++ l).length : Int))) u 2 (vI ((cl.length : Int) + 1)), ?_, ⟨?_, ?_, ?_, ?_, ?_, ⟨?_, ?_, ?_⟩, ?_⟩, ?_⟩
  · refine e49 (by omega) ?_
    simp (disch := first | omega | assumption) only [s49_0, m49_1, s49_4, m49_5, m49_8, s49_9, s49_12, m49_13, s49_16, m49_17, s49_20, m49_21, s49_22, m49_23, s49_26, m49_27, s49_30, m49_31, m49_34, s49_35, s49_36, m49_37, s49_40, s49_41, m49_42, s49_45, Int.toNat_natCast, Int.toNat_natCast, Nat.reduceAdd, Nat.reduceMul, Int.reduceToNat, Int.reduceAdd, Int.reduceLT, Int.reduceLE, Int.reduceEq, Int.reduceNeg, Int.reduceMul, Int.reduceSub, Nat.reduceSub, reduceIte, ite_true, ite_false, and_true, true_and, and_self, h2, h3, h4, s5, hc2, up_ne]
  · rw [up_k (by omega), up_ne (by omega), up_ne (by omega)]; exact h0
  · rw [up_k (by omega), up_ne (by omega), up_ne (by omega)]; exact h1
  · rw [up_at, List.length_append]; rfl
  · rw [up_k (by omega), up_ne (by omega), up_ne (by omega)]; exact h3
  · rw [up_k (by omega), up_ne (by omega), up_ne (by omega)]; exact h4
  · rw [up_k (by omega), up_ne (by omega), up_ne (by omega)]; exact s6
  · rw [up_k (by omega), up_ne (by omega), up_ne (by omega), s5, flat_app]
  · intro k hk
    rw [flat_app] at hk ⊢
    rw [up_ne (by omega), up_ne (by omega), up_ne (by omega)]; exact ss k hk
  · intro i hi
    change i < (cl ++ [(z, l)]).length at hi
    rw [List.length_append, List.length_cons, List.length_nil] at hi
    rw [up_ne (show u + 1 ≠ u by omega), up_ne (show u + 1 ≠ u + 2 by omega), up_ne (show u + 2 ≠ u by omega)]
    by_cases e : i = cl.length
    · rw [e, up_at, up_at]
      change vI z = vI ((cl ++ [(z, l)]).getD cl.length (0, [])).1 ∧ vI ((flat cl ++ l).length : Int) = vI ((flat ((cl ++ [(z, l)]).take (cl.length + 1))).length : Int)
      rw [getD_e2, List.take_of_length_le (by rw [List.length_append]; exact Nat.le_refl _), flat_app]
      exact ⟨rfl, rfl⟩
    · have hi2 : i < cl.length := by omega
      rw [up_k e, up_k e, up_ne (show u + 2 ≠ u + 1 by omega), hf (u + 1) i (by omega) (by omega), hf (u + 2) i (by omega) (by omega)]
      change B (u + 1) i = vI ((cl ++ [(z, l)]).getD i (0, [])).1 ∧ B (u + 2) i = vI ((flat ((cl ++ [(z, l)]).take (i + 1))).length : Int)
      rw [getD_l2 hi2, List.take_append_of_le_length (by omega)]
      exact ha i hi2
  · intro a x y z w
    rw [up_ne x, up_ne z, up_ne y]
theorem wdT_c : ∀ c, c ∈ wdT → 0 ≤ c := by decide
theorem wdG_c : ∀ c, c ∈ wdG → 0 ≤ c := by decide
theorem wdO_c : ∀ c, c ∈ wdO → 0 ≤ c := by decide
theorem wdI_c : ∀ c, c ∈ wdI → 0 ≤ c := by decide
/-- what a clause comes to -/
def gdC (n p : Nat) (st : Int × Int × List (Int × List Int)) (r : Bool × Nat × Int × Int × List (Int × List Int)) : Prop := p ≤ r.2.1 ∧ r.2.1 ≤ n ∧ ((flat st.2.2).length ≤ p → (flat r.2.2.2.2).length ≤ r.2.1)
theorem lik_g {nx : Nat → Int} {n p : Nat} {w : List Int} {sg : Int → Int} {st : Int × Int × List (Int × List Int)} (h : txt nx n) (hw : ∀ c, c ∈ w → 0 ≤ c) (hp : p ≤ n) : gdC n p st (likS nx st w sg p) := by
  have gO := nb_g h w p hw hp
  unfold likS
  by_cases c1 : (nbS nx w p).1 < 0
  · rw [if_pos c1]; exact ⟨gO.1, gO.2.1, fun hh => Nat.le_trans hh gO.1⟩
  rw [if_neg c1]
  by_cases c2 : nx (nbS nx w p).2 = 32
  · rw [if_pos c2]
    have l := txt_lt h (by decide) c2
    have ge := eit_g h (one_g h 4) ((nbS nx w p).2 + 1) (by omega)
    by_cases c3 : (eitS nx (oneS nx 4) ((nbS nx w p).2 + 1)).1 = true
    · rw [if_pos c3]
      refine ⟨by simp only []; omega, by simp only []; omega, fun hh => ?_⟩
      simp only [flat_app, List.length_append]; omega
    · rw [if_neg c3]
      exact ⟨by simp only []; omega, by simp only []; omega, fun hh => by simp only []; omega⟩
  · rw [if_neg c2]; exact ⟨gO.1, gO.2.1, fun hh => Nat.le_trans hh gO.1⟩
theorem clz_g {nx : Nat → Int} {n p : Nat} {st : Int × Int × List (Int × List Int)} (h : txt nx n) (hp : p ≤ n) : gdC n p st (clzS nx st p) := by
  have gT := nb_g h wdT p wdT_c hp
  have gG := nb_g h wdG p wdG_c hp
  unfold clzS
  by_cases c1 : nx p = 116
  · rw [if_pos c1]; exact ⟨gT.1, gT.2.1, fun hh => Nat.le_trans hh gT.1⟩
  rw [if_neg c1]
  by_cases c2 : nx p = 103
  · rw [if_pos c2]; exact ⟨gG.1, gG.2.1, fun hh => Nat.le_trans hh gG.1⟩
  rw [if_neg c2]
  by_cases c3 : nx (p + 1) = 111
  · rw [if_pos c3]; exact lik_g h wdO_c hp
  · rw [if_neg c3]; exact lik_g h wdI_c hp
/-- a clause is read: it is told, or the upland has its arrays still -/
def okC (B0 B : q_Bv) (u : Nat) (r : Bool × Nat × Int × Int × List (Int × List Int)) : Prop := (r.1 = true → upw B u r.2.2) ∧ sho B u ∧ frU B0 B u
theorem wp25_2 {d u n p N L : Nat} {st : Int × Int × List (Int × List Int)} {x : Value} {B : q_Bv} {G : q_Gi} (hd : 26 ≤ d) (h : rdr G n) (hu : uar u N) (hG : G 56 3 = (u : Int)) (hpn : p ≤ n) (hw : upw B u st) (hl : (flat st.2.2).length ≤ p) (hc : st.2.2.length < 10) (hx : nL x = true) : WP d 25 98 [.ref 56, vI 1, x] [.ref 1012, .ref 56] (hp N L B (ug G 56 2 p)) (fun r1 X1 => ∃ B', r1 = some (vI (bI ((likS (nxG G n) st wdO sgO p).1 = true))) ∧ X1 = hp N L B' (ug G 56 2 ((likS (nxG G n) st wdO sgO p).2.1 : Nat)) ∧ okC B B' u (likS (nxG G n) st wdO sgO p)) := by
  have hn := h.2.1
  have ht := txt_of h
  obtain ⟨u1, u2, u3, u4, u5, u6, u7⟩ := id hu
  have h32 := sp32_2 (d := d) (N := N) (L := L) (B := B) (by omega) h hpn
  have gO := nb_g ht wdO p wdO_c hpn
  unfold likS
  by_cases c1 : (nbS (nxG G n) wdO p).1 < 0
  · rw [if_pos c1]
    simp (disch := first | omega | assumption) only [s25_101, s25_102, s25_103, s25_106, s25_107, s25_112, s25_112b, s25_115, s25_116, s25_120, s25_120b, s25_123, s25_124, s25_124b, s25_125, m25_126, s25_129, s25_130, s25_130b, s25_133, s25_134, s25_135, s25_138, s25_142, s25_143, s25_143b, Int.toNat_natCast, Int.toNat_natCast, Nat.reduceAdd, Nat.reduceMul, Int.reduceToNat, Int.reduceAdd, Int.reduceLT, Int.reduceLE, Int.reduceEq, Int.reduceNeg, Int.reduceMul, Int.reduceSub, Nat.reduceSub, reduceIte, ite_true, ite_false, and_true, true_and, and_self, m25_98 h32, c1, bI, Bool.false_eq_true]
    exact ⟨B, rfl, fun e => absurd e Bool.false_ne_true, upw_sho hw, frU_r B u⟩
  rw [if_neg c1]
  by_cases c2 : nxG G n (nbS (nxG G n) wdO p).2 = 32
  · have l := txt_lt ht (by decide) c2
    have h30 := sp30_t (d := d) (N := N) (L := L) (B := B) (by omega) h (by decide) c2
    have r28 : rdP N L u n G (oneS (nxG G n) 4) 28 0 21 := rd28 (L := L) h hu hG 4 0 rfl
    have r27 := rd27 h hu hG (one_g ht 4) r28 (by omega)
    have r26 := rd26 h hu hG (bot_g ht (one_g ht 4)) r27 (by omega)
    have ge := eit_g ht (one_g ht 4) ((nbS (nxG G n) wdO p).2 + 1) (by omega)
    obtain ⟨B1, s1, t1, f1⟩ := r26 d (by omega) B (flat st.2.2) ((nbS (nxG G n) wdO p).2 + 1) (by omega) hw.2.2.2.2.2.1 (by omega)
    rw [if_pos c2]
    by_cases c3 : (eitS (nxG G n) (oneS (nxG G n) 4) ((nbS (nxG G n) wdO p).2 + 1)).1 = true
    · rw [if_pos c3]
      rw [bI_t c3] at s1
      obtain ⟨t, g, cl⟩ := st
      obtain ⟨B2, s2, t2, f2⟩ := sp49 (d := d) (L := L) (z := sgO (nbS (nxG G n) wdO p).1) (G := ug G 56 2 ((eitS (nxG G n) (oneS (nxG G n) 4) ((nbS (nxG G n) wdO p).2 + 1)).2.1 : Nat)) (by omega) hu hw f1 t1 hc
      unfold sgO at s2
      simp (disch := first | omega | assumption) only [s25_101, s25_102, s25_103, s25_106, s25_107, s25_112, s25_112b, s25_115, s25_116, s25_120, s25_120b, s25_123, s25_124, s25_124b, s25_125, m25_126, s25_129, s25_130, s25_130b, s25_133, s25_134, s25_135, s25_138, s25_142, s25_143, s25_143b, Int.toNat_natCast, Int.toNat_natCast, Nat.reduceAdd, Nat.reduceMul, Int.reduceToNat, Int.reduceAdd, Int.reduceLT, Int.reduceLE, Int.reduceEq, Int.reduceNeg, Int.reduceMul, Int.reduceSub, Nat.reduceSub, reduceIte, ite_true, ite_false, and_true, true_and, and_self, m25_98 h32, c1, bI, m25_109 h30, m25_117 s1, ug_k, hG, nz_u, m25_139 u1 (by omega) s2]
      exact ⟨B2, rfl, fun _ => t2, upw_sho t2, frU_t (frU_of f1) f2⟩
    · rw [if_neg c3]
      rw [bI_f c3] at s1
      simp (disch := first | omega | assumption) only [s25_101, s25_102, s25_103, s25_106, s25_107, s25_112, s25_112b, s25_115, s25_116, s25_120, s25_120b, s25_123, s25_124, s25_124b, s25_125, m25_126, s25_129, s25_130, s25_130b, s25_133, s25_134, s25_135, s25_138, s25_142, s25_143, s25_143b, Int.toNat_natCast, Int.toNat_natCast, Nat.reduceAdd, Nat.reduceMul, Int.reduceToNat, Int.reduceAdd, Int.reduceLT, Int.reduceLE, Int.reduceEq, Int.reduceNeg, Int.reduceMul, Int.reduceSub, Nat.reduceSub, reduceIte, ite_true, ite_false, and_true, true_and, and_self, m25_98 h32, c1, bI, m25_109 h30, m25_117 s1, Bool.false_eq_true]
      exact ⟨B1, rfl, fun e => absurd e Bool.false_ne_true, sho_fru (upw_sho hw) f1, frU_of f1⟩
  · have h30 := sp30_f (d := d) (N := N) (L := L) (B := B) (by omega) h (by decide) gO.2.1 c2
    rw [if_neg c2]
    simp (disch := first | omega | assumption) only [s25_101, s25_102, s25_103, s25_106, s25_107, s25_112, s25_112b, s25_115, s25_116, s25_120, s25_120b, s25_123, s25_124, s25_124b, s25_125, m25_126, s25_129, s25_130, s25_130b, s25_133, s25_134, s25_135, s25_138, s25_142, s25_143, s25_143b, Int.toNat_natCast, Int.toNat_natCast, Nat.reduceAdd, Nat.reduceMul, Int.reduceToNat, Int.reduceAdd, Int.reduceLT, Int.reduceLE, Int.reduceEq, Int.reduceNeg, Int.reduceMul, Int.reduceSub, Nat.reduceSub, reduceIte, ite_true, ite_false, and_true, true_and, and_self, m25_98 h32, c1, bI, m25_109 h30, Bool.false_eq_true]
    exact ⟨B, rfl, fun e => absurd e Bool.false_ne_true, upw_sho hw, frU_r B u⟩
theorem wp25_3 {d u n p N L : Nat} {st : Int × Int × List (Int × List Int)} {x : Value} {B : q_Bv} {G : q_Gi} (hd : 26 ≤ d) (h : rdr G n) (hu : uar u N) (hG : G 56 3 = (u : Int)) (hpn : p ≤ n) (hw : upw B u st) (hl : (flat st.2.2).length ≤ p) (hc : st.2.2.length < 10) (hx : nL x = true) : WP d 25 98 [.ref 56, vI 0, x] [.ref 1013, .ref 56] (hp N L B (ug G 56 2 p)) (fun r1 X1 => ∃ B', r1 = some (vI (bI ((likS (nxG G n) st wdI sgI p).1 = true))) ∧ X1 = hp N L B' (ug G 56 2 ((likS (nxG G n) st wdI sgI p).2.1 : Nat)) ∧ okC B B' u (likS (nxG G n) st wdI sgI p)) := by
  have hn := h.2.1
  have ht := txt_of h
  obtain ⟨u1, u2, u3, u4, u5, u6, u7⟩ := id hu
  have h32 := sp32_3 (d := d) (N := N) (L := L) (B := B) (by omega) h hpn
  have gO := nb_g ht wdI p wdI_c hpn
  unfold likS
  by_cases c1 : (nbS (nxG G n) wdI p).1 < 0
  · rw [if_pos c1]
    simp (disch := first | omega | assumption) only [s25_101, s25_102, s25_103, s25_106, s25_107, s25_112, s25_112b, s25_115, s25_116, s25_120, s25_120b, s25_123, s25_124, s25_124b, s25_125, m25_126, s25_129, s25_130, s25_130b, s25_133, s25_134, s25_135, s25_138, s25_142, s25_143, s25_143b, Int.toNat_natCast, Int.toNat_natCast, Nat.reduceAdd, Nat.reduceMul, Int.reduceToNat, Int.reduceAdd, Int.reduceLT, Int.reduceLE, Int.reduceEq, Int.reduceNeg, Int.reduceMul, Int.reduceSub, Nat.reduceSub, reduceIte, ite_true, ite_false, and_true, true_and, and_self, m25_98 h32, c1, bI, Bool.false_eq_true]
    exact ⟨B, rfl, fun e => absurd e Bool.false_ne_true, upw_sho hw, frU_r B u⟩
  rw [if_neg c1]
  by_cases c2 : nxG G n (nbS (nxG G n) wdI p).2 = 32
  · have l := txt_lt ht (by decide) c2
    have h30 := sp30_t (d := d) (N := N) (L := L) (B := B) (by omega) h (by decide) c2
    have r28 : rdP N L u n G (oneS (nxG G n) 4) 28 0 21 := rd28 (L := L) h hu hG 4 0 rfl
    have r27 := rd27 h hu hG (one_g ht 4) r28 (by omega)
    have r26 := rd26 h hu hG (bot_g ht (one_g ht 4)) r27 (by omega)
    have ge := eit_g ht (one_g ht 4) ((nbS (nxG G n) wdI p).2 + 1) (by omega)
    obtain ⟨B1, s1, t1, f1⟩ := r26 d (by omega) B (flat st.2.2) ((nbS (nxG G n) wdI p).2 + 1) (by omega) hw.2.2.2.2.2.1 (by omega)
    rw [if_pos c2]
    by_cases c3 : (eitS (nxG G n) (oneS (nxG G n) 4) ((nbS (nxG G n) wdI p).2 + 1)).1 = true
    · rw [if_pos c3]
      rw [bI_t c3] at s1
      obtain ⟨t, g, cl⟩ := st
      obtain ⟨B2, s2, t2, f2⟩ := sp49 (d := d) (L := L) (z := sgI (nbS (nxG G n) wdI p).1) (G := ug G 56 2 ((eitS (nxG G n) (oneS (nxG G n) 4) ((nbS (nxG G n) wdI p).2 + 1)).2.1 : Nat)) (by omega) hu hw f1 t1 hc
      unfold sgI at s2
      simp (disch := first | omega | assumption) only [s25_101, s25_102, s25_103, s25_106, s25_107, s25_112, s25_112b, s25_115, s25_116, s25_120, s25_120b, s25_123, s25_124, s25_124b, s25_125, m25_126, s25_129, s25_130, s25_130b, s25_133, s25_134, s25_135, s25_138, s25_142, s25_143, s25_143b, Int.toNat_natCast, Int.toNat_natCast, Nat.reduceAdd, Nat.reduceMul, Int.reduceToNat, Int.reduceAdd, Int.reduceLT, Int.reduceLE, Int.reduceEq, Int.reduceNeg, Int.reduceMul, Int.reduceSub, Nat.reduceSub, reduceIte, ite_true, ite_false, and_true, true_and, and_self, m25_98 h32, c1, bI, m25_109 h30, m25_117 s1, ug_k, hG, nz_u, m25_139 u1 (by omega) s2]
      exact ⟨B2, rfl, fun _ => t2, upw_sho t2, frU_t (frU_of f1) f2⟩
    · rw [if_neg c3]
      rw [bI_f c3] at s1
      simp (disch := first | omega | assumption) only [s25_101, s25_102, s25_103, s25_106, s25_107, s25_112, s25_112b, s25_115, s25_116, s25_120, s25_120b, s25_123, s25_124, s25_124b, s25_125, m25_126, s25_129, s25_130, s25_130b, s25_133, s25_134, s25_135, s25_138, s25_142, s25_143, s25_143b, Int.toNat_natCast, Int.toNat_natCast, Nat.reduceAdd, Nat.reduceMul, Int.reduceToNat, Int.reduceAdd, Int.reduceLT, Int.reduceLE, Int.reduceEq, Int.reduceNeg, Int.reduceMul, Int.reduceSub, Nat.reduceSub, reduceIte, ite_true, ite_false, and_true, true_and, and_self, m25_98 h32, c1, bI, m25_109 h30, m25_117 s1, Bool.false_eq_true]
      exact ⟨B1, rfl, fun e => absurd e Bool.false_ne_true, sho_fru (upw_sho hw) f1, frU_of f1⟩
  · have h30 := sp30_f (d := d) (N := N) (L := L) (B := B) (by omega) h (by decide) gO.2.1 c2
    rw [if_neg c2]
    simp (disch := first | omega | assumption) only [s25_101, s25_102, s25_103, s25_106, s25_107, s25_112, s25_112b, s25_115, s25_116, s25_120, s25_120b, s25_123, s25_124, s25_124b, s25_125, m25_126, s25_129, s25_130, s25_130b, s25_133, s25_134, s25_135, s25_138, s25_142, s25_143, s25_143b, Int.toNat_natCast, Int.toNat_natCast, Nat.reduceAdd, Nat.reduceMul, Int.reduceToNat, Int.reduceAdd, Int.reduceLT, Int.reduceLE, Int.reduceEq, Int.reduceNeg, Int.reduceMul, Int.reduceSub, Nat.reduceSub, reduceIte, ite_true, ite_false, and_true, true_and, and_self, m25_98 h32, c1, bI, m25_109 h30, Bool.false_eq_true]
    exact ⟨B, rfl, fun e => absurd e Bool.false_ne_true, upw_sho hw, frU_r B u⟩
theorem sp25 {d u n p N L : Nat} {st : Int × Int × List (Int × List Int)} {B : q_Bv} {G : q_Gi} (hd : 27 ≤ d) (h : rdr G n) (hu : uar u N) (hG : G 56 3 = (u : Int)) (hpn : p ≤ n) (hw : upw B u st) (hl : (flat st.2.2).length ≤ p) (hc : st.2.2.length < 10) : ∃ B', Sp d 25 [.ref 56] (hp N L B (ug G 56 2 p)) (some (vI (bI ((clzS (nxG G n) st p).1 = true)))) (hp N L B' (ug G 56 2 ((clzS (nxG G n) st p).2.1 : Nat))) ∧ okC B B' u (clzS (nxG G n) st p) := by
  have hn := h.2.1
  have ht := txt_of h
  obtain ⟨u1, u2, u3, u4, u5, u6, u7⟩ := id hu
  obtain ⟨r1, X1, hS, B', hr, hX, q⟩ := E25 (d := d) (X := hp N L B (ug G 56 2 (p : Nat))) (Q := fun r1 X1 => ∃ B', r1 = some (vI (bI ((clzS (nxG G n) st p).1 = true))) ∧ X1 = hp N L B' (ug G 56 2 ((clzS (nxG G n) st p).2.1 : Nat)) ∧ okC B B' u (clzS (nxG G n) st p)) (by omega) (by
    have hT := sp29 (d := d - 1) (N := N) (L := L) (B := B) (k := 0) (c := 116) (by omega) h (by decide) hpn (by decide)
    have hGg := sp29 (d := d - 1) (N := N) (L := L) (B := B) (k := 0) (c := 103) (by omega) h (by decide) hpn (by decide)
    have hO := sp29 (d := d - 1) (N := N) (L := L) (B := B) (k := 1) (c := 111) (by omega) h (by decide) hpn (by decide)
    change Sp (d - 1) 29 [.ref 56, vI 0, vI 116] (hp N L B (ug G 56 2 p)) (some (vI (bI (nxG G n p = 116)))) (hp N L B (ug G 56 2 p)) at hT
    change Sp (d - 1) 29 [.ref 56, vI 0, vI 103] (hp N L B (ug G 56 2 p)) (some (vI (bI (nxG G n p = 103)))) (hp N L B (ug G 56 2 p)) at hGg
    change Sp (d - 1) 29 [.ref 56, vI 1, vI 111] (hp N L B (ug G 56 2 p)) (some (vI (bI (nxG G n (p + 1) = 111)))) (hp N L B (ug G 56 2 p)) at hO
    unfold clzS
    by_cases c0 : nxG G n p = 116
    · have gT := nb_g ht wdT p wdT_c hpn
      have h32 := sp32_0 (d := d - 1) (N := N) (L := L) (B := B) (by omega) h hpn
      have c' := eq_true c0
      rw [if_pos c0]
      rw [bI_t c0] at hT
      by_cases cz : (nbS (nxG G n) wdT p).1 < 0
      · have cz' : ¬ 0 ≤ (nbS (nxG G n) wdT p).1 := by omega
        simp (disch := first | omega | assumption) only [s25_0, s25_1, s25_2, s25_7, s25_7b, s25_10, m25_11, s25_14, s25_15, m25_20, s25_23, m25_24, m25_27, s25_30, s25_33, s25_34, s25_37, s25_38, s25_38b, s25_39, s25_40, s25_41, s25_46, s25_46b, s25_49, m25_50, s25_53, s25_54, m25_59, s25_62, m25_63, m25_66, s25_69, s25_72, s25_73, s25_76, s25_77, s25_77b, Int.toNat_natCast, Int.toNat_natCast, Nat.reduceAdd, Nat.reduceMul, Int.reduceToNat, Int.reduceAdd, Int.reduceLT, Int.reduceLE, Int.reduceEq, Int.reduceNeg, Int.reduceMul, Int.reduceSub, Nat.reduceSub, reduceIte, ite_true, ite_false, and_true, true_and, and_self, m25_4 hT,  ug_k, hG, nz_u, m25_17 h32, up_at, cz, cz', bI, decide_false, Bool.false_eq_true]
        exact ⟨up B u 0 (vI (nbS (nxG G n) wdT p).1), rfl, fun e => absurd e Bool.false_ne_true, upw_sho (upw_g (k := 0) (by decide) hw), fun a x _ _ _ => up_ne x⟩
      · have cz' : 0 ≤ (nbS (nxG G n) wdT p).1 := by omega
        simp (disch := first | omega | assumption) only [s25_0, s25_1, s25_2, s25_7, s25_7b, s25_10, m25_11, s25_14, s25_15, m25_20, s25_23, m25_24, m25_27, s25_30, s25_33, s25_34, s25_37, s25_38, s25_38b, s25_39, s25_40, s25_41, s25_46, s25_46b, s25_49, m25_50, s25_53, s25_54, m25_59, s25_62, m25_63, m25_66, s25_69, s25_72, s25_73, s25_76, s25_77, s25_77b, Int.toNat_natCast, Int.toNat_natCast, Nat.reduceAdd, Nat.reduceMul, Int.reduceToNat, Int.reduceAdd, Int.reduceLT, Int.reduceLE, Int.reduceEq, Int.reduceNeg, Int.reduceMul, Int.reduceSub, Nat.reduceSub, reduceIte, ite_true, ite_false, and_true, true_and, and_self, m25_4 hT,  ug_k, hG, nz_u, m25_17 h32, up_at, cz, cz', bI, decide_true]
        exact ⟨up B u 0 (vI (nbS (nxG G n) wdT p).1), rfl, fun _ => upw_g (k := 0) (by decide) hw, upw_sho (upw_g (k := 0) (by decide) hw), fun a x _ _ _ => up_ne x⟩
    rw [if_neg c0]
    rw [bI_f c0] at hT
    by_cases c1 : nxG G n p = 103
    · have gT := nb_g ht wdG p wdG_c hpn
      have h32 := sp32_1 (d := d - 1) (N := N) (L := L) (B := B) (by omega) h hpn
      have c' := eq_true c1
      rw [if_pos c1]
      rw [bI_t c1] at hGg
      by_cases cz : (nbS (nxG G n) wdG p).1 < 0
      · have cz' : ¬ 0 ≤ (nbS (nxG G n) wdG p).1 := by omega
        simp (disch := first | omega | assumption) only [s25_0, s25_1, s25_2, s25_7, s25_7b, s25_10, m25_11, s25_14, s25_15, m25_20, s25_23, m25_24, m25_27, s25_30, s25_33, s25_34, s25_37, s25_38, s25_38b, s25_39, s25_40, s25_41, s25_46, s25_46b, s25_49, m25_50, s25_53, s25_54, m25_59, s25_62, m25_63, m25_66, s25_69, s25_72, s25_73, s25_76, s25_77, s25_77b, Int.toNat_natCast, Int.toNat_natCast, Nat.reduceAdd, Nat.reduceMul, Int.reduceToNat, Int.reduceAdd, Int.reduceLT, Int.reduceLE, Int.reduceEq, Int.reduceNeg, Int.reduceMul, Int.reduceSub, Nat.reduceSub, reduceIte, ite_true, ite_false, and_true, true_and, and_self, m25_4 hT, m25_43 hGg, ug_k, hG, nz_u, m25_56 h32, up_at, cz, cz', bI, decide_false, Bool.false_eq_true]
        exact ⟨up B u 1 (vI (nbS (nxG G n) wdG p).1), rfl, fun e => absurd e Bool.false_ne_true, upw_sho (upw_g (k := 1) (by decide) hw), fun a x _ _ _ => up_ne x⟩
      · have cz' : 0 ≤ (nbS (nxG G n) wdG p).1 := by omega
        simp (disch := first | omega | assumption) only [s25_0, s25_1, s25_2, s25_7, s25_7b, s25_10, m25_11, s25_14, s25_15, m25_20, s25_23, m25_24, m25_27, s25_30, s25_33, s25_34, s25_37, s25_38, s25_38b, s25_39, s25_40, s25_41, s25_46, s25_46b, s25_49, m25_50, s25_53, s25_54, m25_59, s25_62, m25_63, m25_66, s25_69, s25_72, s25_73, s25_76, s25_77, s25_77b, Int.toNat_natCast, Int.toNat_natCast, Nat.reduceAdd, Nat.reduceMul, Int.reduceToNat, Int.reduceAdd, Int.reduceLT, Int.reduceLE, Int.reduceEq, Int.reduceNeg, Int.reduceMul, Int.reduceSub, Nat.reduceSub, reduceIte, ite_true, ite_false, and_true, true_and, and_self, m25_4 hT, m25_43 hGg, ug_k, hG, nz_u, m25_56 h32, up_at, cz, cz', bI, decide_true]
        exact ⟨up B u 1 (vI (nbS (nxG G n) wdG p).1), rfl, fun _ => upw_g (k := 1) (by decide) hw, upw_sho (upw_g (k := 1) (by decide) hw), fun a x _ _ _ => up_ne x⟩
    rw [if_neg c1]
    rw [bI_f c1] at hGg
    by_cases c3 : nxG G n (p + 1) = 111
    · rw [if_pos c3]
      rw [bI_t c3] at hO
      simp (disch := first | omega | assumption) only [s25_0, s25_1, s25_2, s25_7, s25_7b, s25_10, m25_11, s25_14, s25_15, m25_20, s25_23, m25_24, m25_27, s25_30, s25_33, s25_34, s25_37, s25_38, s25_38b, s25_39, s25_40, s25_41, s25_46, s25_46b, s25_49, m25_50, s25_53, s25_54, m25_59, s25_62, m25_63, m25_66, s25_69, s25_72, s25_73, s25_76, s25_77, s25_77b, s25_78, s25_79, s25_80, s25_85, s25_86, s25_87, s25_88, s25_88b, s25_91, s25_93, s25_96, Int.toNat_natCast, Int.toNat_natCast, Nat.reduceAdd, Nat.reduceMul, Int.reduceToNat, Int.reduceAdd, Int.reduceLT, Int.reduceLE, Int.reduceEq, Int.reduceNeg, Int.reduceMul, Int.reduceSub, Nat.reduceSub, reduceIte, ite_true, ite_false, and_true, true_and, and_self, m25_4 hT, m25_43 hGg, m25_82 hO]
      exact wp25_2 (d := d - 1) (by omega) h hu hG hpn hw hl hc rfl
    · rw [if_neg c3]
      rw [bI_f c3] at hO
      simp (disch := first | omega | assumption) only [s25_0, s25_1, s25_2, s25_7, s25_7b, s25_10, m25_11, s25_14, s25_15, m25_20, s25_23, m25_24, m25_27, s25_30, s25_33, s25_34, s25_37, s25_38, s25_38b, s25_39, s25_40, s25_41, s25_46, s25_46b, s25_49, m25_50, s25_53, s25_54, m25_59, s25_62, m25_63, m25_66, s25_69, s25_72, s25_73, s25_76, s25_77, s25_77b, s25_78, s25_79, s25_80, s25_85, s25_86, s25_87, s25_88, s25_88b, s25_91, s25_93, s25_96, Int.toNat_natCast, Int.toNat_natCast, Nat.reduceAdd, Nat.reduceMul, Int.reduceToNat, Int.reduceAdd, Int.reduceLT, Int.reduceLE, Int.reduceEq, Int.reduceNeg, Int.reduceMul, Int.reduceSub, Nat.reduceSub, reduceIte, ite_true, ite_false, and_true, true_and, and_self, m25_4 hT, m25_43 hGg, m25_82 hO]
      exact wp25_3 (d := d - 1) (by omega) h hu hG hpn hw hl hc rfl)
  exact ⟨B', by rw [hr, hX] at hS; exact hS, q⟩
