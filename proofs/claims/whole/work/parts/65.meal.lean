/-! the class's meals -/
def itI (f : Int → Int) : Nat → Int → Int
  | 0, x => x
  | n + 1, x => f (itI f n x)
/-- all MEALS in their order: how many FOODS, how full then, how many of each -/
def mealsL (s : Nat → Nat) (fe : Nat → Int → Int) : Nat → Nat → Int → List Nat → List (Nat × Int × List Nat)
  | 0, left, x, pre => [(4 - left, x, pre)]
  | e + 1, left, x, pre => (List.range' 0 (min left (s (3 - e)) + 1)).flatMap (fun n => mealsL s fe e (left - n) (itI (fe (3 - e)) n x) (pre ++ [n]))
def wghS (tn : Int → Bool) (so : Int) (st : Int × Int × List Nat) (m : Nat × Int × List Nat) : Int × Int × List Nat := (st.1 + bI (m.2.1 = so), if tn m.2.1 = true ∧ (st.2.1 < 0 ∨ (m.1 : Int) ≤ st.2.1) then ((m.1 : Int), m.2.2) else st.2)
/-- the meals' cells -/
def mst (G : q_Gi) (b so : Int) (st : Int × Int × List Nat) : Prop := G 59 0 = 1 ∧ G 59 1 = b ∧ G 59 2 = so ∧ G 59 4 = st.1 ∧ G 59 5 = st.2.1 ∧ (-5 ≤ st.2.1 ∧ st.2.1 ≤ 100) ∧ (0 ≤ st.2.1 → ∀ j, j < 4 → G 61 j = ((st.2.2.getD j 0 : Nat) : Int))
theorem nz_1 : nz 1 = .ref 1 := rfl
theorem sp21 {d u b c N L : Nat} {t g so x : Int} {cl : List (Int × List Int)} {B : q_Bv} {G : q_Gi} {st : Int × Int × List Nat} {pre : List Nat} (hd : 4 ≤ d) (ho : hok1 G) (hu : G 1 8 = (u : Int)) (hU : upl B N u t g cl) (hb : b < 6) (hx : 0 ≤ x ∧ x ≤ 99) (hso : -1000 ≤ so ∧ so ≤ 1000) (hc : c ≤ 4) (hm : mst G b so st) (hp4 : ∀ j, j < 4 → G 60 j = ((pre.getD j 0 : Nat) : Int)) : ∃ G', Sp d 21 [.ref 59, vI c, vI x] (hp N L B G) none (hp N L B G') ∧ mst G' b so (wghS (fun y => tunedS t (G 2 b) (G 3 b) y) so st (c, x, pre)) ∧ ∀ a, a ≠ 59 → a ≠ 61 → G' a = G a := by
  obtain ⟨h0, h1, h2, h4, h5, h5r, h6⟩ := hm
  have h9 := sp9_1 (d := d - 1) (L := L) (f := x) (G := ug G 59 4 (st.1 + bI (x = so))) (by omega) (hok1_c (by rw [ug_ne (by omega)]) (by rw [ug_ne (by omega)]) (by rw [ug_ne (by omega)]) (by rw [ug_ne (by omega)]) ho) (by rw [ug_ne (by omega)]; exact hu) hU hb (by omega)
  rw [ug_ne (by omega), ug_ne (by omega)] at h9
  have hex : ∃ w', w' = st.1 + bI (x = so) := ⟨_, rfl⟩
  obtain ⟨w', hw'⟩ := hex
  rw [← hw'] at h9
  have pre1 : ∀ (R : Option Value → q_H → Prop), WP (d - 1) 21 22 [.ref 59, vI (c : Int), vI x] [] (hp N L B (ug G 59 4 w')) R → WP (d - 1) 21 0 [.ref 59, vI (c : Int), vI x] [] (hp N L B G) R := by
    intro R hR
    by_cases cs : x = so
    · have cs' := eq_true cs
      rw [bI_t cs] at hw'
      simp (disch := omega) only [s21_0, s21_1, m21_2, s21_5, s21_6, m21_7, s21_10, s21_10b, s21_13, s21_14, s21_17, s21_18, m21_19, Int.toNat_natCast, Int.toNat_natCast, Nat.reduceAdd, Nat.reduceMul, Int.reduceToNat, Int.reduceAdd, Int.reduceLT, Int.reduceLE, Int.reduceEq, Int.reduceNeg, Int.reduceMul, Int.reduceSub, Nat.reduceSub, reduceIte, ite_true, ite_false, and_true, true_and, and_self, h2, h4, cs', ← hw', if_true]
      exact hR
    · have cs' := eq_false cs
      rw [bI_f cs] at hw'
      simp (disch := omega) only [s21_0, s21_1, m21_2, s21_5, s21_6, m21_7, s21_10, s21_10b, s21_13, s21_14, s21_17, s21_18, m21_19, Int.toNat_natCast, Int.toNat_natCast, Nat.reduceAdd, Nat.reduceMul, Int.reduceToNat, Int.reduceAdd, Int.reduceLT, Int.reduceLE, Int.reduceEq, Int.reduceNeg, Int.reduceMul, Int.reduceSub, Nat.reduceSub, reduceIte, ite_true, ite_false, and_true, true_and, and_self, h2, h4, cs', ← hw', if_false]
      exact hR
  by_cases ct : tunedS t (G 2 b) (G 3 b) x = true
  · by_cases cf : st.2.1 < 0 ∨ (c : Int) ≤ st.2.1
    · refine ⟨cpG (ug (ug G 59 4 w') 59 5 (c : Int)) 60 0 61 0 4, ?_, ?_, ?_⟩
      · refine e21 (by omega) (pre1 _ ?_)
        rw [bI_t ct] at h9
        by_cases cf0 : st.2.1 < 0
        · simp (disch := omega) only [s21_22, m21_23, s21_26, m21_27, s21_30, s21_34, s21_34b, s21_37, m21_38, s21_41, s21_44, s21_45, m21_46, s21_49, s21_52, s21_53, m21_54, s21_57, m21_58, s21_61, s21_62, m21_63, s21_66, s21_67, m21_68, s21_71, Int.toNat_natCast, Int.toNat_natCast, Nat.reduceAdd, Nat.reduceMul, Int.reduceToNat, Int.reduceAdd, Int.reduceLT, Int.reduceLE, Int.reduceEq, Int.reduceNeg, Int.reduceMul, Int.reduceSub, Nat.reduceSub, reduceIte, ite_true, ite_false, and_true, true_and, and_self, h0, h1, h2, h5, cf0, ug_k, ug_ne, nz_1, m21_31 h9]
        · have cf1 : ¬ st.2.1 < (c : Int) := by omega
          simp (disch := omega) only [s21_22, m21_23, s21_26, m21_27, s21_30, s21_34, s21_34b, s21_37, m21_38, s21_41, s21_44, s21_45, m21_46, s21_49, s21_52, s21_53, m21_54, s21_57, m21_58, s21_61, s21_62, m21_63, s21_66, s21_67, m21_68, s21_71, Int.toNat_natCast, Int.toNat_natCast, Nat.reduceAdd, Nat.reduceMul, Int.reduceToNat, Int.reduceAdd, Int.reduceLT, Int.reduceLE, Int.reduceEq, Int.reduceNeg, Int.reduceMul, Int.reduceSub, Nat.reduceSub, reduceIte, ite_true, ite_false, and_true, true_and, and_self, h0, h1, h2, h5, cf0, cf1, ug_k, ug_ne, nz_1, m21_31 h9]
      · have e : wghS (fun y => tunedS t (G 2 b) (G 3 b) y) so st (c, x, pre) = (w', (c : Int), pre) := by
          unfold wghS
          rw [if_pos ⟨ct, cf⟩, hw']
        rw [e]
        refine ⟨?_, ?_, ?_, ?_, ?_, by change -5 ≤ (c : Int) ∧ (c : Int) ≤ 100; omega, ?_⟩
        · rw [cp_ne (by omega), ug_k (by omega), ug_k (by omega)]; exact h0
        · rw [cp_ne (by omega), ug_k (by omega), ug_k (by omega)]; exact h1
        · rw [cp_ne (by omega), ug_k (by omega), ug_k (by omega)]; exact h2
        · rw [cp_ne (by omega), ug_k (by omega), ug_at]
        · rw [cp_ne (by omega), ug_at]
        · intro _ j hj
          rw [cp_at (by omega), ug_ne (by omega), ug_ne (by omega)]
          exact hp4 j hj
      · intro a a1 a2
        rw [cp_ne a2, ug_ne a1, ug_ne a1]
    · refine ⟨ug G 59 4 w', ?_, ?_, fun a a1 _ => ug_ne a1⟩
      · refine e21 (by omega) (pre1 _ ?_)
        rw [bI_t ct] at h9
        have cf0 : ¬ st.2.1 < 0 := by omega
        have cf1 : st.2.1 < (c : Int) := by omega
        simp (disch := omega) only [s21_22, m21_23, s21_26, m21_27, s21_30, s21_34, s21_34b, s21_37, m21_38, s21_41, s21_44, s21_45, m21_46, s21_49, s21_52, s21_53, m21_54, s21_57, m21_58, s21_61, s21_62, m21_63, s21_66, s21_67, m21_68, s21_71, Int.toNat_natCast, Int.toNat_natCast, Nat.reduceAdd, Nat.reduceMul, Int.reduceToNat, Int.reduceAdd, Int.reduceLT, Int.reduceLE, Int.reduceEq, Int.reduceNeg, Int.reduceMul, Int.reduceSub, Nat.reduceSub, reduceIte, ite_true, ite_false, and_true, true_and, and_self, h0, h1, h2, h5, cf0, cf1, ug_k, ug_ne, nz_1, m21_31 h9]
      · have e : wghS (fun y => tunedS t (G 2 b) (G 3 b) y) so st (c, x, pre) = (w', st.2) := by
          unfold wghS
          rw [if_neg (fun h => cf h.2), hw']
        rw [e]
        exact ⟨by rw [ug_k (by omega)]; exact h0, by rw [ug_k (by omega)]; exact h1, by rw [ug_k (by omega)]; exact h2, ug_at, by rw [ug_k (by omega)]; exact h5, h5r, by rw [ug_ne (by omega)]; exact h6⟩
  · refine ⟨ug G 59 4 w', ?_, ?_, fun a a1 _ => ug_ne a1⟩
    · refine e21 (by omega) (pre1 _ ?_)
      rw [bI_f ct] at h9
      simp (disch := omega) only [s21_22, m21_23, s21_26, m21_27, s21_30, s21_34, s21_34b, s21_37, m21_38, s21_41, s21_44, s21_45, m21_46, s21_49, s21_52, s21_53, m21_54, s21_57, m21_58, s21_61, s21_62, m21_63, s21_66, s21_67, m21_68, s21_71, Int.toNat_natCast, Int.toNat_natCast, Nat.reduceAdd, Nat.reduceMul, Int.reduceToNat, Int.reduceAdd, Int.reduceLT, Int.reduceLE, Int.reduceEq, Int.reduceNeg, Int.reduceMul, Int.reduceSub, Nat.reduceSub, reduceIte, ite_true, ite_false, and_true, true_and, and_self, h0, h1, h2, h5, ug_k, ug_ne, nz_1, m21_31 h9]
    · have e : wghS (fun y => tunedS t (G 2 b) (G 3 b) y) so st (c, x, pre) = (w', st.2) := by
        unfold wghS
        rw [if_neg (fun h => ct h.1), hw']
      rw [e]
      exact ⟨by rw [ug_k (by omega)]; exact h0, by rw [ug_k (by omega)]; exact h1, by rw [ug_k (by omega)]; exact h2, ug_at, by rw [ug_k (by omega)]; exact h5, h5r, by rw [ug_ne (by omega)]; exact h6⟩
def feS (cl : List (Int × List Int)) (k v b day : Int) : Nat → Int → Int := fun f x => min 99 (x + fillsS cl k v b f x day)
theorem feS_r {cl : List (Int × List Int)} {k v b day x : Int} {f : Nat} (h : 0 ≤ x) (h2 : 0 ≤ fillsS cl k v b f x day) : 0 ≤ feS cl k v b day f x ∧ feS cl k v b day f x ≤ 99 := by
  unfold feS
  generalize fillsS cl k v b f x day = y at h2 ⊢
  omega
theorem itI_r {f : Int → Int} (hf : ∀ x, 0 ≤ x ∧ x ≤ 99 → 0 ≤ f x ∧ f x ≤ 99) {x : Int} (hx : 0 ≤ x ∧ x ≤ 99) : ∀ n, 0 ≤ itI f n x ∧ itI f n x ≤ 99 := by
  intro n
  induction n with
  | zero => exact hx
  | succ n ih => exact hf _ ih
theorem getD_app1 {l : List Nat} {j n : Nat} (h : j < l.length) : (l ++ [n]).getD j 0 = l.getD j 0 := by
  rw [List.getD_eq_getElem?_getD, List.getD_eq_getElem?_getD, List.getElem?_append_left h]
theorem getD_app2 {l : List Nat} {n : Nat} : (l ++ [n]).getD l.length 0 = n := by
  rw [List.getD_eq_getElem?_getD, List.getElem?_append_right (Nat.le_refl _), Nat.sub_self]; rfl
theorem sp20 {u b N L : Nat} {t g so : Int} {cl : List (Int × List Int)} {B : q_Bv} {G0 : q_Gi} {s : Nat → Nat} (hU : upl B N u t g cl) (hb : b < 6) (hso : -1000 ≤ so ∧ so ≤ 1000) (hs : ∀ j, j < 4 → s j ≤ 99) (hfe : ∀ f x, f < 4 → 0 ≤ x ∧ x ≤ 99 → 0 ≤ feS cl (G0 2 b) (G0 3 b) b (G0 1 6) f x ∧ feS cl (G0 2 b) (G0 3 b) b (G0 1 6) f x ≤ 99) (ho0 : hok1 G0) (hu0 : G0 1 8 = (u : Int)) (hs0 : ∀ j, j < 4 → G0 6 j = (s j : Int)) : ∀ (e f left : Nat) (d : Nat) (x : Int) (pre : List Nat) (st : Int × Int × List Nat) (G : q_Gi), 7 + e ≤ d → f + e = 4 → left ≤ 4 → 0 ≤ x ∧ x ≤ 99 → pre.length = f → (∀ a, a ≠ 7 → a ≠ 59 → a ≠ 60 → a ≠ 61 → G a = G0 a) → mst G b so st → (∀ j, j < f → G 60 j = ((pre.getD j 0 : Nat) : Int)) → ∃ G', Sp d 20 [.ref 59, vI f, vI left, vI x] (hp N L B G) none (hp N L B G') ∧ mst G' b so ((mealsL s (feS cl (G0 2 b) (G0 3 b) b (G0 1 6)) e left x pre).foldl (wghS (fun y => tunedS t (G0 2 b) (G0 3 b) y) so) st) ∧ (∀ j, j < f → G' 60 j = G 60 j) ∧ (∀ a, a ≠ 7 → a ≠ 59 → a ≠ 60 → a ≠ 61 → G' a = G0 a) := by
  intro e
  induction e with
  | zero =>
    intro f left d x pre st G hd hf hl hx hpl hG hm hpre
    have ef : f = 4 := by omega
    subst ef
    obtain ⟨G', h21, m21, fr⟩ := sp21 (d := d - 1) (L := L) (N := N) (B := B) (G := G) (c := 4 - left) (x := x) (by omega) (hok1_c (by rw [hG 1 (by omega) (by omega) (by omega) (by omega)]) (hG 2 (by omega) (by omega) (by omega) (by omega)) (hG 3 (by omega) (by omega) (by omega) (by omega)) (hG 5 (by omega) (by omega) (by omega) (by omega)) ho0) (by rw [hG 1 (by omega) (by omega) (by omega) (by omega)]; exact hu0) hU hb hx hso (by omega) hm hpre
    refine ⟨G', ?_, ?_, fun j _ => by rw [fr 60 (by omega) (by omega)], fun a a1 a2 a3 a4 => by rw [fr a a2 a4, hG a a1 a2 a3 a4]⟩
    · refine e20 (by omega) ?_
      have e4 : (4 : Int) - (left : Int) = ((4 - left : Nat) : Int) := by omega
      simp (disch := omega) only [s20_0, s20_1, s20_2, s20_5, s20_6, s20_7, s20_8, s20_9, s20_13, Int.toNat_natCast, Int.toNat_natCast, Nat.reduceAdd, Nat.reduceMul, Int.reduceToNat, Int.reduceAdd, Int.reduceLT, Int.reduceLE, Int.reduceEq, Int.reduceNeg, Int.reduceMul, Int.reduceSub, Nat.reduceSub, reduceIte, ite_true, ite_false, and_true, true_and, and_self, e4, m20_10 h21, show ((4 : Nat) : Int) = 4 from rfl]
    · rw [hG 2 (by omega) (by omega) (by omega) (by omega), hG 3 (by omega) (by omega) (by omega) (by omega)] at m21
      exact m21
  | succ e ih =>
    intro f left d x pre st G hd hf hl hx hpl hG hm hpre
    have hf4 : f < 4 := by omega
    have e3 : 3 - e = f := by omega
    have hfx := fun x hx => hfe f x hf4 hx
    have lp : ∀ (r n : Nat) (st : Int × Int × List Nat) (G : q_Gi), n + r = min left (s f) + 1 → (∀ a, a ≠ 7 → a ≠ 59 → a ≠ 60 → a ≠ 61 → G a = G0 a) → mst G b so st → (∀ j, j < f → G 60 j = ((pre.getD j 0 : Nat) : Int)) → WP (d - 1) 20 35 [.ref 59, vI f, vI left, vI x, vI ((min left (s f) : Nat) : Int), vI (itI (feS cl (G0 2 b) (G0 3 b) b (G0 1 6) f) (n - 1) x), vI n] [] (hp N L B G) (fun r1 X1 => ∃ G', r1 = none ∧ X1 = hp N L B G' ∧ mst G' b so (((List.range' n r).flatMap (fun n => mealsL s (feS cl (G0 2 b) (G0 3 b) b (G0 1 6)) e (left - n) (itI (feS cl (G0 2 b) (G0 3 b) b (G0 1 6) f) n x) (pre ++ [n]))).foldl (wghS (fun y => tunedS t (G0 2 b) (G0 3 b) y) so) st) ∧ (∀ j, j < f → G' 60 j = ((pre.getD j 0 : Nat) : Int)) ∧ (∀ a, a ≠ 7 → a ≠ 59 → a ≠ 60 → a ≠ 61 → G' a = G0 a)) := by
      intro r
      induction r with
      | zero =>
        intro n st G hn hG hm hpre
        have h1 : ((min left (s f) : Nat) : Int) < (n : Int) := by omega
        simp (disch := omega) only [s20_35, s20_37, s20_39, s20_94, Int.toNat_natCast, Int.toNat_natCast, Nat.reduceAdd, Nat.reduceMul, Int.reduceToNat, Int.reduceAdd, Int.reduceLT, Int.reduceLE, Int.reduceEq, Int.reduceNeg, Int.reduceMul, Int.reduceSub, Nat.reduceSub, reduceIte, ite_true, ite_false, and_true, true_and, and_self, h1]
        exact ⟨G, rfl, hm, hpre, hG⟩
      | succ r ihr =>
        intro n st G hn hG hm hpre
        have hs4 := hs f hf4
        have h1 : ¬ ((min left (s f) : Nat) : Int) < (n : Int) := by omega
        have hx1 := itI_r hfx hx (n - 1)
        have hx2 := itI_r hfx hx n
        -- the food is taken
        have tk : ∃ G1, (∀ (R : Option Value → q_H → Prop), WP (d - 1) 20 67 [.ref 59, vI f, vI left, vI x, vI ((min left (s f) : Nat) : Int), vI (itI (feS cl (G0 2 b) (G0 3 b) b (G0 1 6) f) n x), vI n] [] (hp N L B G1) R → WP (d - 1) 20 42 [.ref 59, vI f, vI left, vI x, vI ((min left (s f) : Nat) : Int), vI (itI (feS cl (G0 2 b) (G0 3 b) b (G0 1 6) f) (n - 1) x), vI n] [] (hp N L B G) R) ∧ ∀ a, a ≠ 7 → G1 a = G a := by
          by_cases n0 : n = 0
          · subst n0
            refine ⟨G, ?_, fun _ _ => rfl⟩
            intro R hR
            simp (disch := omega) only [s20_42, s20_44, s20_44b, s20_47, s20_48, s20_51, m20_52, s20_55, m20_56, s20_59, s20_60, s20_65, Int.toNat_natCast, Int.toNat_natCast, Nat.reduceAdd, Nat.reduceMul, Int.reduceToNat, Int.reduceAdd, Int.reduceLT, Int.reduceLE, Int.reduceEq, Int.reduceNeg, Int.reduceMul, Int.reduceSub, Nat.reduceSub, reduceIte, ite_true, ite_false, and_true, true_and, and_self, show ((0 : Nat) : Int) = 0 from rfl]
            exact hR
          · obtain ⟨m, rfl⟩ : ∃ m, n = m + 1 := ⟨n - 1, by omega⟩
            obtain ⟨G1, h12, fr⟩ := sp12_1 (d := d - 1) (L := L) (N := N) (B := B) (G := G) (f := f) (b := b) (fd := itI (feS cl (G0 2 b) (G0 3 b) b (G0 1 6) f) m x) (by omega) (hok1_c (by rw [hG 1 (by omega) (by omega) (by omega) (by omega)]) (hG 2 (by omega) (by omega) (by omega) (by omega)) (hG 3 (by omega) (by omega) (by omega) (by omega)) (hG 5 (by omega) (by omega) (by omega) (by omega)) ho0) (by rw [hG 1 (by omega) (by omega) (by omega) (by omega)]; exact hu0) hU hb hf4 (by have := itI_r hfx hx m; omega)
            refine ⟨G1, ?_, fr⟩
            intro R hR
            have nn : ¬ ((m + 1 : Nat) : Int) = 0 := by omega
            rw [hG 2 (by omega) (by omega) (by omega) (by omega), hG 3 (by omega) (by omega) (by omega) (by omega), hG 1 (by omega) (by omega) (by omega) (by omega)] at h12
            simp (disch := omega) only [s20_42, s20_44, s20_44b, s20_47, s20_48, s20_51, m20_52, s20_55, m20_56, s20_59, s20_60, s20_65, Int.toNat_natCast, Int.toNat_natCast, Nat.reduceAdd, Nat.reduceMul, Int.reduceToNat, Int.reduceAdd, Int.reduceLT, Int.reduceLE, Int.reduceEq, Int.reduceNeg, Int.reduceMul, Int.reduceSub, Nat.reduceSub, reduceIte, ite_true, ite_false, and_true, true_and, and_self, nn, hm.1, hm.2.1, nz_1, Nat.add_sub_cancel, m20_62 h12]
            exact hR
        obtain ⟨G1, tk1, tk2⟩ := tk
        have hG2 : ∀ a, a ≠ 7 → a ≠ 59 → a ≠ 60 → a ≠ 61 → ug G1 60 f n a = G0 a := by
          intro a a1 a2 a3 a4; rw [ug_ne a3, tk2 a a1, hG a a1 a2 a3 a4]
        have hm2 : mst (ug G1 60 f n) b so st := by
          obtain ⟨q0, q1, q2, q4, q5, q6, q7⟩ := hm
          exact ⟨by rw [ug_ne (by omega), tk2 _ (by omega)]; exact q0, by rw [ug_ne (by omega), tk2 _ (by omega)]; exact q1, by rw [ug_ne (by omega), tk2 _ (by omega)]; exact q2, by rw [ug_ne (by omega), tk2 _ (by omega)]; exact q4, by rw [ug_ne (by omega), tk2 _ (by omega)]; exact q5, q6, by rw [ug_ne (by omega), tk2 _ (by omega)]; exact q7⟩
        have hp2 : ∀ j, j < f + 1 → ug G1 60 f n 60 j = (((pre ++ [n]).getD j 0 : Nat) : Int) := by
          intro j hj
          by_cases c : j = f
          · subst c; rw [ug_at, ← hpl, getD_app2]
          · rw [ug_k c, tk2 _ (by omega), hpre j (by omega), getD_app1 (by omega)]
        obtain ⟨G3, h20, m3, p3, f3⟩ := ih (f + 1) (left - n) (d - 1) (itI (feS cl (G0 2 b) (G0 3 b) b (G0 1 6) f) n x) (pre ++ [n]) st (ug G1 60 f n) (by omega) (by omega) (by omega) hx2 (by rw [List.length_append, hpl]; rfl) hG2 hm2 hp2
        have e1 : (f : Int) + 1 = ((f + 1 : Nat) : Int) := rfl
        have e2 : (left : Int) - (n : Int) = ((left - n : Nat) : Int) := by omega
        rw [s20_35]
        simp (disch := omega) only [s20_37, s20_39, Int.toNat_natCast, Int.toNat_natCast, Nat.reduceAdd, Nat.reduceMul, Int.reduceToNat, Int.reduceAdd, Int.reduceLT, Int.reduceLE, Int.reduceEq, Int.reduceNeg, Int.reduceMul, Int.reduceSub, Nat.reduceSub, reduceIte, ite_true, ite_false, and_true, true_and, and_self, h1]
        refine tk1 _ ?_
        simp (disch := omega) only [s20_67, m20_68, s20_71, s20_72, m20_74, s20_75, s20_76, s20_77, s20_78, s20_79, s20_80, s20_82, s20_83, s20_88, s20_91, Int.toNat_natCast, Int.toNat_natCast, Nat.reduceAdd, Nat.reduceMul, Int.reduceToNat, Int.reduceAdd, Int.reduceLT, Int.reduceLE, Int.reduceEq, Int.reduceNeg, Int.reduceMul, Int.reduceSub, Nat.reduceSub, reduceIte, ite_true, ite_false, and_true, true_and, and_self, e1, e2, m20_85 h20]
        have := ihr (n + 1) _ G3 (by omega) f3 m3 (fun j hj => by rw [p3 j (by omega), hp2 j (by omega), getD_app1 (by omega)])
        rw [Nat.add_sub_cancel] at this
        rw [List.range'_succ, List.flatMap_cons, List.foldl_append]
        exact this
    have hs4 := hs f hf4
    obtain ⟨r1, X1, hS, G', hr, hX, q1, q2, q3⟩ := E20 (d := d) (X := hp N L B G) (z1 := (f : Int)) (z2 := (left : Int)) (z3 := x) (Q := fun r1 X1 => ∃ G', r1 = none ∧ X1 = hp N L B G' ∧ mst G' b so (((List.range' 0 (min left (s f) + 1)).flatMap (fun n => mealsL s (feS cl (G0 2 b) (G0 3 b) b (G0 1 6)) e (left - n) (itI (feS cl (G0 2 b) (G0 3 b) b (G0 1 6) f) n x) (pre ++ [n]))).foldl (wghS (fun y => tunedS t (G0 2 b) (G0 3 b) y) so) st) ∧ (∀ j, j < f → G' 60 j = ((pre.getD j 0 : Nat) : Int)) ∧ (∀ a, a ≠ 7 → a ≠ 59 → a ≠ 60 → a ≠ 61 → G' a = G0 a)) (by omega) (by
      have hlt : (f : Int) < 4 := by omega
      have hg6 : G 6 f = (s f : Int) := by rw [hG 6 (by omega) (by omega) (by omega) (by omega)]; exact hs0 f hf4
      have em : min (left : Int) (s f : Int) = ((min left (s f) : Nat) : Int) := by omega
      simp (disch := omega) only [s20_0, s20_1, s20_2, s20_5, s20_6, s20_7, s20_8, s20_9, s20_13, s20_14, s20_15, m20_16, m20_19, s20_22, m20_23, s20_24, s20_27, s20_29, s20_30, s20_32, s20_33, Int.toNat_natCast, Int.toNat_natCast, Nat.reduceAdd, Nat.reduceMul, Int.reduceToNat, Int.reduceAdd, Int.reduceLT, Int.reduceLE, Int.reduceEq, Int.reduceNeg, Int.reduceMul, Int.reduceSub, Nat.reduceSub, reduceIte, ite_true, ite_false, and_true, true_and, and_self, hlt, hm.1, nz_1, hg6, em]
      exact lp (min left (s f) + 1) 0 st G (by omega) hG hm hpre)
    refine ⟨G', by rw [hr, hX] at hS; exact hS, ?_, fun j hj => by rw [q2 j hj, hpre j hj], q3⟩
    unfold mealsL
    rw [e3]
    exact q1
/-- what is laid before all is gone through -/
theorem mst19 {b so : Int} {G : q_Gi} : mst (ug (ug (ug (ug (ug G 59 0 1) 59 1 b) 59 2 so) 59 4 0) 59 5 (-5)) b so (0, -5, []) ∧ ∀ a, a ≠ 59 → (ug (ug (ug (ug (ug G 59 0 1) 59 1 b) 59 2 so) 59 4 0) 59 5 (-5)) a = G a := by
  refine ⟨?_, ?_⟩
  · refine ⟨?_, ?_, ?_, ?_, ?_, by decide, fun h => absurd h (by decide)⟩
    · rw [ug_k (by omega), ug_k (by omega), ug_k (by omega), ug_k (by omega), ug_at]
    · rw [ug_k (by omega), ug_k (by omega), ug_k (by omega), ug_at]
    · rw [ug_k (by omega), ug_k (by omega), ug_at]
    · rw [ug_k (by omega), ug_at]
    · rw [ug_at]
  · intro a h
    rw [ug_ne h, ug_ne h, ug_ne h, ug_ne h, ug_ne h]
def stoN (H : q_Gi) (j : Nat) : Nat := (H 5 j).toNat
def mealR (t : Int) (cl : List (Int × List Int)) (H : q_Gi) (b : Nat) (so : Int) : Int × Int × List Nat := (mealsL (stoN H) (feS cl (H 1 b) (H 2 b) b (H 0 1)) 4 4 (H 3 b) []).foldl (wghS (fun y => tunedS t (H 1 b) (H 2 b) y) so) (0, -5, [])
theorem sp19 {d u b N L : Nat} {t g so : Int} {cl : List (Int × List Int)} {B : q_Bv} {G H : q_Gi} (hd : 13 ≤ d) (hv : hv1 G H) (ho : Hok H) (hu : G 1 8 = (u : Int)) (hU : upl B N u t g cl) (hb : b < 6) (hso : -1000 ≤ so ∧ so ≤ 1000) : ∃ G', Sp d 19 [.ref 59, .ref 1, vI b, vI so] (hp N L B G) none (hp N L B G') ∧ mst G' b so (mealR t cl H b so) ∧ qf G G' := by
  have hok' := hok1_v hv ho
  obtain ⟨v0, v6, v7, v1, v2, v3, v4, v5⟩ := hv
  obtain ⟨m1, f1⟩ := mst19 (b := (b : Int)) (so := so) (G := G)
  obtain ⟨G1, hG1⟩ : ∃ G1, G1 = ug (ug (ug (ug (ug G 59 0 1) 59 1 (b : Int)) 59 2 so) 59 4 0) 59 5 (-5) := ⟨_, rfl⟩
  rw [← hG1] at m1 f1
  have hH1 := ho.2.1 b hb
  have hH2 := ho.2.2.1 b hb
  have hH3 := ho.2.2.2.1 b hb
  have hfe : ∀ f x, f < 4 → 0 ≤ x ∧ x ≤ 99 → 0 ≤ feS cl (G1 2 b) (G1 3 b) b (G1 1 6) f x ∧ feS cl (G1 2 b) (G1 3 b) b (G1 1 6) f x ≤ 99 := by
    intro f x hf hx
    exact feS_r hx.1 (fillsS_r hU (by omega) (by rw [f1 3 (by omega), v2 b hb]; omega)).1
  have h20 := sp20 (N := N) (L := L) (G0 := G1) (s := stoN H) (so := so) (b := b) hU hb hso (fun j hj => by have := ho.2.2.2.2.2.1 j hj; unfold stoN; omega) hfe (hok1_c (by rw [f1 1 (by omega)]) (f1 2 (by omega)) (f1 3 (by omega)) (f1 5 (by omega)) hok') (by rw [f1 1 (by omega)]; exact hu) (fun j hj => by have := ho.2.2.2.2.2.1 j hj; rw [f1 6 (by omega), v5 j hj]; unfold stoN; omega) 4 0 4 (d - 1) (H 3 b) [] (0, -5, []) G1 (by omega) rfl (by omega) hH3 rfl (fun _ _ _ _ _ => rfl) m1 (fun j hj => absurd hj (Nat.not_lt_zero j))
  obtain ⟨G', s2, m2, _, f2⟩ := h20
  rw [f1 2 (by omega), f1 3 (by omega), f1 1 (by omega), v1 b hb, v2 b hb, v6] at m2
  have s2' : Sp (d - 1) 20 [.ref 59, vI 0, vI 4, vI (H 3 b)] (hp N L B G1) none (hp N L B G') := s2
  rw [hG1] at s2'
  refine ⟨G', ?_, m2, fun a ha => by rw [f2 a (by omega) (by omega) (by omega) (by omega), f1 a (by omega)]⟩
  have w3 := v3 b hb
  have hb6 : (b : Int) < 6 := by omega
  refine e19 (by omega) ?_
  simp (disch := omega) only [s19_0, s19_1, m19_2, s19_5, s19_6, m19_7, s19_10, s19_11, m19_12, s19_15, s19_16, m19_17, s19_20, s19_21, m19_23, s19_26, s19_27, s19_28, s19_29, m19_30, m19_33, s19_36, m19_37, m19_40, s19_44, Int.toNat_natCast, Int.toNat_natCast, Nat.reduceAdd, Nat.reduceMul, Int.reduceToNat, Int.reduceAdd, Int.reduceLT, Int.reduceLE, Int.reduceEq, Int.reduceNeg, Int.reduceMul, Int.reduceSub, Nat.reduceSub, reduceIte, ite_true, ite_false, and_true, true_and, and_self, show ((1 : Nat) : Int) = 1 from rfl, ug_ne, ug_k, ug_at, nz_1, w3, m19_41 s2']
def mealS (t : Int) (cl : List (Int × List Int)) (H : q_Gi) (b w : Int) : Int := if (0 ≤ b ∧ b < H 0 0) ∧ 0 ≤ w ∧ w ≤ 4 then (if (mealR t cl H b.toNat (-5)).2.1 < 0 then -5 else if w = 0 then (mealR t cl H b.toNat (-5)).2.1 else (((mealR t cl H b.toNat (-5)).2.2.getD (w - 1).toNat 0 : Nat) : Int)) else -1
theorem sp68 {d u N L : Nat} {t g b w : Int} {cl : List (Int × List Int)} {B : q_Bv} {G H : q_Gi} (hd : 14 ≤ d) (hv : hv1 G H) (ho : Hok H) (hu : G 1 8 = (u : Int)) (hU : upl B N u t g cl) (hb : -2147483648 ≤ b ∧ b ≤ 2147483647) (hw : -2147483648 ≤ w ∧ w ≤ 2147483647) : ∃ G', Sp d 68 [.ref 0, vI b, vI w] (hp N L B G) (some (vI (mealS t cl H b w))) (hp N L B G') ∧ qf G G' := by
  have h94 := sp94 (d := d - 1) (N := N) (L := L) (B := B) (G := G) (by omega) hb (by rw [hv.1]; exact ho.1)
  rw [hv.1] at h94
  by_cases hB : 0 ≤ b ∧ b < H 0 0
  · by_cases hW : 0 ≤ w ∧ w ≤ 4
    · obtain ⟨n, rfl⟩ : ∃ n : Nat, b = (n : Int) := ⟨b.toNat, by omega⟩
      have hn6 : n < 6 := by have := ho.1; omega
      obtain ⟨G', s1, m2, fq⟩ := sp19 (d := d - 1) (L := L) (so := -5) (by omega) hv ho hu hU hn6 (by omega)
      refine ⟨G', ?_, fq⟩
      obtain ⟨q0, q1, q2, q4, q5, q6, q7⟩ := m2
      have w1 : ¬ w < 0 := by omega
      have w2 : ¬ 4 < w := by omega
      have w3 : w ≤ 4 := by omega
      have hBW : (0 ≤ (n : Int) ∧ (n : Int) < H 0 0) ∧ 0 ≤ w ∧ w ≤ 4 := ⟨hB, hW⟩
      refine e68 (by omega) ?_
      by_cases c1 : (mealR t cl H n (-5)).2.1 < 0
      · simp (disch := omega) only [s68_0, s68_1, s68_5, s68_5b, s68_8, s68_9, s68_12, s68_13, s68_14, s68_17, s68_18, s68_19, m68_20, s68_23, m68_24, s68_27, s68_28, s68_33, m68_34, m68_37, s68_40, s68_43, s68_45, s68_46, s68_47, s68_47b, s68_50, m68_51, m68_54, s68_57, s68_60, m68_61, m68_64, s68_67, s68_68, s68_69, m68_70, s68_71, Int.toNat_natCast, Int.toNat_natCast, Nat.reduceAdd, Nat.reduceMul, Int.reduceToNat, Int.reduceAdd, Int.reduceLT, Int.reduceLE, Int.reduceEq, Int.reduceNeg, Int.reduceMul, Int.reduceSub, Nat.reduceSub, reduceIte, ite_true, ite_false, and_true, true_and, and_self, m68_2 h94, hB, w1, w2, w3, m68_30 s1, q5, c1, mealS, hBW]
      · by_cases c2 : w = 0
        · subst c2
          simp (disch := omega) only [s68_0, s68_1, s68_5, s68_5b, s68_8, s68_9, s68_12, s68_13, s68_14, s68_17, s68_18, s68_19, m68_20, s68_23, m68_24, s68_27, s68_28, s68_33, m68_34, m68_37, s68_40, s68_43, s68_45, s68_46, s68_47, s68_47b, s68_50, m68_51, m68_54, s68_57, s68_60, m68_61, m68_64, s68_67, s68_68, s68_69, m68_70, s68_71, Int.toNat_natCast, Int.toNat_natCast, Nat.reduceAdd, Nat.reduceMul, Int.reduceToNat, Int.reduceAdd, Int.reduceLT, Int.reduceLE, Int.reduceEq, Int.reduceNeg, Int.reduceMul, Int.reduceSub, Nat.reduceSub, reduceIte, ite_true, ite_false, and_true, true_and, and_self, m68_2 h94, hB, w1, w2, w3, m68_30 s1, q5, c1, mealS, hBW]
        · have q8 := q7 (by omega) (w - 1).toNat (by omega)
          simp (disch := omega) only [s68_0, s68_1, s68_5, s68_5b, s68_8, s68_9, s68_12, s68_13, s68_14, s68_17, s68_18, s68_19, m68_20, s68_23, m68_24, s68_27, s68_28, s68_33, m68_34, m68_37, s68_40, s68_43, s68_45, s68_46, s68_47, s68_47b, s68_50, m68_51, m68_54, s68_57, s68_60, m68_61, m68_64, s68_67, s68_68, s68_69, m68_70, s68_71, Int.toNat_natCast, Int.toNat_natCast, Nat.reduceAdd, Nat.reduceMul, Int.reduceToNat, Int.reduceAdd, Int.reduceLT, Int.reduceLE, Int.reduceEq, Int.reduceNeg, Int.reduceMul, Int.reduceSub, Nat.reduceSub, reduceIte, ite_true, ite_false, and_true, true_and, and_self, m68_2 h94, hB, w1, w2, w3, m68_30 s1, q5, c1, c2, mealS, hBW, q8]
    · refine ⟨G, ?_, qf_r G⟩
      have e : mealS t cl H b w = -1 := by unfold mealS; rw [if_neg (fun h => hW h.2)]
      rw [e]
      refine e68 (by omega) ?_
      by_cases c1 : w < 0
      · simp (disch := omega) only [s68_0, s68_1, s68_5, s68_5b, s68_8, s68_9, s68_12, s68_13, s68_14, s68_17, s68_18, s68_19, m68_20, s68_23, m68_24, s68_27, s68_28, s68_33, m68_34, m68_37, s68_40, s68_43, s68_45, s68_46, s68_47, s68_47b, s68_50, m68_51, m68_54, s68_57, s68_60, m68_61, m68_64, s68_67, s68_68, s68_69, m68_70, s68_71, Int.toNat_natCast, Int.toNat_natCast, Nat.reduceAdd, Nat.reduceMul, Int.reduceToNat, Int.reduceAdd, Int.reduceLT, Int.reduceLE, Int.reduceEq, Int.reduceNeg, Int.reduceMul, Int.reduceSub, Nat.reduceSub, reduceIte, ite_true, ite_false, and_true, true_and, and_self, m68_2 h94, hB, c1]
      · have c2 : 4 < w := by omega
        have c3 : ¬ w ≤ 4 := by omega
        simp (disch := omega) only [s68_0, s68_1, s68_5, s68_5b, s68_8, s68_9, s68_12, s68_13, s68_14, s68_17, s68_18, s68_19, m68_20, s68_23, m68_24, s68_27, s68_28, s68_33, m68_34, m68_37, s68_40, s68_43, s68_45, s68_46, s68_47, s68_47b, s68_50, m68_51, m68_54, s68_57, s68_60, m68_61, m68_64, s68_67, s68_68, s68_69, m68_70, s68_71, Int.toNat_natCast, Int.toNat_natCast, Nat.reduceAdd, Nat.reduceMul, Int.reduceToNat, Int.reduceAdd, Int.reduceLT, Int.reduceLE, Int.reduceEq, Int.reduceNeg, Int.reduceMul, Int.reduceSub, Nat.reduceSub, reduceIte, ite_true, ite_false, and_true, true_and, and_self, m68_2 h94, hB, c1, c2, c3]
  · refine ⟨G, ?_, qf_r G⟩
    have e : mealS t cl H b w = -1 := by unfold mealS; rw [if_neg (fun h => hB h.1)]
    rw [e]
    refine e68 (by omega) ?_
    simp (disch := omega) only [s68_0, s68_1, s68_5, s68_5b, s68_8, s68_9, s68_12, s68_13, s68_14, s68_17, s68_18, s68_19, m68_20, s68_23, m68_24, s68_27, s68_28, s68_33, m68_34, m68_37, s68_40, s68_43, s68_45, s68_46, s68_47, s68_47b, s68_50, m68_51, m68_54, s68_57, s68_60, m68_61, m68_64, s68_67, s68_68, s68_69, m68_70, s68_71, Int.toNat_natCast, Int.toNat_natCast, Nat.reduceAdd, Nat.reduceMul, Int.reduceToNat, Int.reduceAdd, Int.reduceLT, Int.reduceLE, Int.reduceEq, Int.reduceNeg, Int.reduceMul, Int.reduceSub, Nat.reduceSub, reduceIte, ite_true, ite_false, and_true, true_and, and_self, m68_2 h94, hB]
def cameS (t : Int) (cl : List (Int × List Int)) (H : q_Gi) (b n : Int) : Int := if 0 ≤ b ∧ b < H 0 0 then (if 0 ≤ n ∧ n ≤ 99 then (mealR t cl H b.toNat n).1 else -2) else -1
theorem sp69 {d u N L : Nat} {t g b w : Int} {cl : List (Int × List Int)} {B : q_Bv} {G H : q_Gi} (hd : 14 ≤ d) (hv : hv1 G H) (ho : Hok H) (hu : G 1 8 = (u : Int)) (hU : upl B N u t g cl) (hb : -2147483648 ≤ b ∧ b ≤ 2147483647) (hw : -2147483648 ≤ w ∧ w ≤ 2147483647) : ∃ G', Sp d 69 [.ref 0, vI b, vI w] (hp N L B G) (some (vI (cameS t cl H b w))) (hp N L B G') ∧ qf G G' := by
  have h94 := sp94 (d := d - 1) (N := N) (L := L) (B := B) (G := G) (by omega) hb (by rw [hv.1]; exact ho.1)
  have h98 := sp98 (d := d - 1) (z := w) (m := 99) (X := hp N L B G) (by omega) hw (by omega)
  rw [hv.1] at h94
  by_cases hB : 0 ≤ b ∧ b < H 0 0
  · by_cases hW : 0 ≤ w ∧ w ≤ 99
    · obtain ⟨n, rfl⟩ : ∃ n : Nat, b = (n : Int) := ⟨b.toNat, by omega⟩
      have hn6 : n < 6 := by have := ho.1; omega
      obtain ⟨G', s1, m2, fq⟩ := sp19 (d := d - 1) (L := L) (so := w) (by omega) hv ho hu hU hn6 (by omega)
      refine ⟨G', ?_, fq⟩
      refine e69 (by omega) ?_
      simp (disch := omega) only [s69_0, s69_1, s69_5, s69_5b, s69_8, s69_9, s69_10, s69_11, s69_16, s69_16b, s69_19, s69_21, s69_22, m69_23, s69_26, m69_27, s69_30, s69_31, s69_35, m69_36, m69_39, s69_42, Int.toNat_natCast, Int.toNat_natCast, Nat.reduceAdd, Nat.reduceMul, Int.reduceToNat, Int.reduceAdd, Int.reduceLT, Int.reduceLE, Int.reduceEq, Int.reduceNeg, Int.reduceMul, Int.reduceSub, Nat.reduceSub, reduceIte, ite_true, ite_false, and_true, true_and, and_self, m69_2 h94, hB, c69_13 h98, hW, m69_32 s1, m2.2.2.2.1, cameS]
    · refine ⟨G, ?_, qf_r G⟩
      refine e69 (by omega) ?_
      simp (disch := omega) only [s69_0, s69_1, s69_5, s69_5b, s69_8, s69_9, s69_10, s69_11, s69_16, s69_16b, s69_19, s69_21, s69_22, m69_23, s69_26, m69_27, s69_30, s69_31, s69_35, m69_36, m69_39, s69_42, Int.toNat_natCast, Int.toNat_natCast, Nat.reduceAdd, Nat.reduceMul, Int.reduceToNat, Int.reduceAdd, Int.reduceLT, Int.reduceLE, Int.reduceEq, Int.reduceNeg, Int.reduceMul, Int.reduceSub, Nat.reduceSub, reduceIte, ite_true, ite_false, and_true, true_and, and_self, m69_2 h94, hB, c69_13 h98, hW, cameS]
  · refine ⟨G, ?_, qf_r G⟩
    refine e69 (by omega) ?_
    simp (disch := omega) only [s69_0, s69_1, s69_5, s69_5b, s69_8, s69_9, s69_10, s69_11, s69_16, s69_16b, s69_19, s69_21, s69_22, m69_23, s69_26, m69_27, s69_30, s69_31, s69_35, m69_36, m69_39, s69_42, Int.toNat_natCast, Int.toNat_natCast, Nat.reduceAdd, Nat.reduceMul, Int.reduceToNat, Int.reduceAdd, Int.reduceLT, Int.reduceLE, Int.reduceEq, Int.reduceNeg, Int.reduceMul, Int.reduceSub, Nat.reduceSub, reduceIte, ite_true, ite_false, and_true, true_and, and_self, m69_2 h94, hB, cameS]
