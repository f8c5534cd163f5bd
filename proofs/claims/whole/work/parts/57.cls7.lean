/-! the class's calls: good, gone, looked -/
/-- a peal's next m strokes (this one is k): how many good, the first that fails -/
def goodS (t : Int) (p : Nat → Int) : Nat → Nat → q_Gi → Int → Int → Int × Int
  | 0, _, _, many, fails => (many, fails)
  | m + 1, k, H, many, fails => if tunS t H (p k).toNat = true then goodS t p m (k + 1) (strokeS H) (many + 1) fails else goodS t p m (k + 1) (strokeS H) many (if fails = -5 then (k : Int) else fails)
theorem lp73 {d u N L n : Nat} {t g w : Int} {cl : List (Int × List Int)} {B : q_Bv} {P : q_Gi} {R : Int × Int} (hd : 6 ≤ d) (hU : upl B N u t g cl) (ho : Pok P) (hn : P 0 0 = (n : Int)) {Q : Option Value → q_H → Prop} {G0 : q_Gi} (hQ : ∀ G', (∀ a, (a < 8 ∨ 14 < a) → G' a = G0 a) → WP d 73 83 [.ref 0, vI w, vI R.1, vI R.2, vI n] [] (hp N L B G') Q) : ∀ (m k : Nat) (G H : q_Gi) (many fails : Int), k + m = n → (∀ a, (a < 8 ∨ 14 < a) → G a = G0 a) → pv G P → hv8 G H → Hok H → G 8 8 = (u : Int) → (-5 ≤ fails ∧ fails ≤ 100) → goodS t (P 1) m k H many fails = R → WP d 73 24 [.ref 0, vI w, vI many, vI fails, vI k] [] (hp N L B G) Q := by
  intro m
  have hn10 : n ≤ 10 := by have := ho.1; omega
  induction m with
  | zero =>
    intro k G H many fails hk h0 hP hv hoH hu hf hR
    have hkn : k = n := by omega
    subst hkn
    have hlt : ¬ ((k : Int) < (k : Int)) := by omega
    simp only [goodS] at hR
    have := hQ G h0
    rw [← hR] at this
    simp (disch := omega) only [s73_24, s73_26, m73_27, m73_30, m73_33, s73_36, Int.toNat_natCast, Int.toNat_natCast, Nat.reduceAdd, Nat.reduceMul, Int.reduceToNat, Int.reduceAdd, Int.reduceLT, Int.reduceLE, Int.reduceEq, Int.reduceNeg, Int.reduceMul, Int.reduceSub, Nat.reduceSub, reduceIte, ite_true, ite_false, and_true, true_and, and_self, hP.1.2.1, hn, hlt]
    exact this
  | succ m ih =>
    intro k G H many fails hk h0 hP hv hoH hu hf hR
    have hlt : ((k : Int) < (n : Int)) := by omega
    have hw := hP.1.2.2.1 k (by omega)
    have hr := ho.2.2.2.2.1 k (by omega)
    obtain ⟨b, hb⟩ : ∃ b : Nat, P 1 k = (b : Int) := ⟨(P 1 k).toNat, by omega⟩
    obtain ⟨G1, h16, w16, f16⟩ := sp16_8 (d := d) (L := L) (b := b) (by omega) (by omega) hv hoH hu hU
    have hP1 : pv G1 P := pv_f hP (fun a _ _ => f16.1 a (by omega))
    have f1 : goodS t (P 1) (m + 1) k H many fails = (if tunS t H (P 1 k).toNat = true then goodS t (P 1) m (k + 1) (strokeS H) (many + 1) fails else goodS t (P 1) m (k + 1) (strokeS H) many (if fails = -5 then (k : Int) else fails)) := rfl
    rw [f1, hb, Int.toNat_natCast] at hR
    have h01 : ∀ a, (a < 8 ∨ 14 < a) → G1 a = G0 a := fun a ha => by rw [f16.1 a ha, h0 a ha]
    rw [s73_24]
    simp (disch := omega) only [s73_26, m73_27, m73_30, m73_33, s73_36, s73_39, m73_40, s73_43, m73_44, m73_47, m73_50, s73_53, m73_55, s73_59, s73_59b, Int.toNat_natCast, Int.toNat_natCast, Nat.reduceAdd, Nat.reduceMul, Int.reduceToNat, Int.reduceAdd, Int.reduceLT, Int.reduceLE, Int.reduceEq, Int.reduceNeg, Int.reduceMul, Int.reduceSub, Nat.reduceSub, reduceIte, ite_true, ite_false, and_true, true_and, and_self, hP.1.2.1, hn, hlt, hw, hb, m73_56 h16]
    by_cases c : tunS t H b = true
    · rw [if_pos c] at hR ⊢
      have := ih (k + 1) G1 (strokeS H) (many + 1) fails (by omega) h01 hP1 w16 (strokeS_ok hoH) (by rw [f16.2, hu]) hf hR
      rw [show ((k + 1 : Nat) : Int) = (k : Int) + 1 from rfl] at this
      simp (disch := omega) only [s73_62, s73_65, s73_68, s73_69, s73_71, s73_71b, s73_74, s73_76, s73_77, s73_80, Int.toNat_natCast, Int.toNat_natCast, Nat.reduceAdd, Nat.reduceMul, Int.reduceToNat, Int.reduceAdd, Int.reduceLT, Int.reduceLE, Int.reduceEq, Int.reduceNeg, Int.reduceMul, Int.reduceSub, Nat.reduceSub, reduceIte, ite_true, ite_false, and_true, true_and, and_self]
      exact this
    · rw [if_neg c] at hR ⊢
      by_cases c2 : fails = -5
      · rw [if_pos c2] at hR
        have := ih (k + 1) G1 (strokeS H) many k (by omega) h01 hP1 w16 (strokeS_ok hoH) (by rw [f16.2, hu]) (by omega) hR
        rw [show ((k + 1 : Nat) : Int) = (k : Int) + 1 from rfl] at this
        simp (disch := omega) only [s73_68, s73_69, s73_71, s73_71b, s73_74, s73_76, s73_77, s73_80, Int.toNat_natCast, Int.toNat_natCast, Nat.reduceAdd, Nat.reduceMul, Int.reduceToNat, Int.reduceAdd, Int.reduceLT, Int.reduceLE, Int.reduceEq, Int.reduceNeg, Int.reduceMul, Int.reduceSub, Nat.reduceSub, reduceIte, ite_true, ite_false, and_true, true_and, and_self, c2]
        exact this
      · rw [if_neg c2] at hR
        have := ih (k + 1) G1 (strokeS H) many fails (by omega) h01 hP1 w16 (strokeS_ok hoH) (by rw [f16.2, hu]) (by omega) hR
        rw [show ((k + 1 : Nat) : Int) = (k : Int) + 1 from rfl] at this
        simp (disch := omega) only [s73_68, s73_69, s73_71, s73_71b, s73_74, s73_76, s73_77, s73_80, Int.toNat_natCast, Int.toNat_natCast, Nat.reduceAdd, Nat.reduceMul, Int.reduceToNat, Int.reduceAdd, Int.reduceLT, Int.reduceLE, Int.reduceEq, Int.reduceNeg, Int.reduceMul, Int.reduceSub, Nat.reduceSub, reduceIte, ite_true, ite_false, and_true, true_and, and_self, c2]
        exact this
def r73 (t : Int) (H P : q_Gi) (w : Int) : Int := if w = 0 then (goodS t (P 1) (P 0 0).toNat 0 H 0 (-5)).1 else if w = 1 then (goodS t (P 1) (P 0 0).toNat 0 H 0 (-5)).2 else -1
theorem sp73 {d u N L : Nat} {t g w : Int} {cl : List (Int × List Int)} {B : q_Bv} {G H P : q_Gi} (hd : 8 ≤ d) (hv : hv1 G H) (ho : Hok H) (hday : H 0 1 ≤ 9999) (hu : G 1 8 = (u : Int)) (hU : upl B N u t g cl) (hP : pv G P) (hPo : Pok P) (hw : -2147483648 ≤ w ∧ w ≤ 2147483647) : ∃ G', Sp d 73 [.ref 0, vI w] (hp N L B G) (some (vI (r73 t H P w))) (hp N L B G') ∧ qf G G' := by
  by_cases c0 : w = 0 ∨ w = 1
  · obtain ⟨n, hn⟩ : ∃ n : Nat, P 0 0 = (n : Int) := ⟨(P 0 0).toNat, by have := hPo.1; omega⟩
    obtain ⟨G1, h100, w100, o100, u100, f100⟩ := sp100 (d := d - 1) (L := L) (n := 0) (by omega) (by omega) hv ho (by omega) hu hU
    have h100 : Sp (d - 1) 100 [.ref 0, vI 0] (hp N L B G) none (hp N L B G1) := h100
    obtain ⟨r, X', hS, G', hr, hX, hq⟩ := E73 (d := d) (X := hp N L B G) (z1 := w) (Q := fun r X => ∃ G', r = some (vI (r73 t H P w)) ∧ X = hp N L B G' ∧ qf G G') (by omega) (by
      have lp := lp73 (d := d - 1) (u := u) (N := N) (L := L) (n := n) (t := t) (g := g) (w := w) (cl := cl) (B := B) (P := P) (R := goodS t (P 1) n 0 H 0 (-5)) (by omega) hU hPo hn (G0 := G1) (Q := fun r X => ∃ G', r = some (vI (r73 t H P w)) ∧ X = hp N L B G' ∧ qf G G') (by
        intro G' hG'
        have hq : qf G G' := fun a ha => by rw [hG' a (by omega), f100 a (by omega)]
        rcases c0 with rfl | rfl
        · simp (disch := omega) only [s73_83, s73_84, s73_84b, s73_87, s73_88, s73_91, s73_92, Int.toNat_natCast, Int.toNat_natCast, Nat.reduceAdd, Nat.reduceMul, Int.reduceToNat, Int.reduceAdd, Int.reduceLT, Int.reduceLE, Int.reduceEq, Int.reduceNeg, Int.reduceMul, Int.reduceSub, Nat.reduceSub, reduceIte, ite_true, ite_false, and_true, true_and, and_self]
          exact ⟨G', by simp only [r73, hn, Int.toNat_natCast, if_true], rfl, hq⟩
        · simp (disch := omega) only [s73_83, s73_84, s73_84b, s73_87, s73_88, s73_91, s73_92, Int.toNat_natCast, Int.toNat_natCast, Nat.reduceAdd, Nat.reduceMul, Int.reduceToNat, Int.reduceAdd, Int.reduceLT, Int.reduceLE, Int.reduceEq, Int.reduceNeg, Int.reduceMul, Int.reduceSub, Nat.reduceSub, reduceIte, ite_true, ite_false, and_true, true_and, and_self]
          exact ⟨G', by simp only [r73, hn, Int.toNat_natCast, Int.toNat_natCast, Int.toNat_natCast, Nat.reduceAdd, Nat.reduceMul, Int.reduceToNat, Int.reduceAdd, Int.reduceLT, Int.reduceLE, Int.reduceEq, Int.reduceNeg, Int.reduceMul, Int.reduceSub, Nat.reduceSub, reduceIte, ite_true, ite_false, and_true, true_and, and_self], rfl, hq⟩) n 0 G1 H 0 (-5) (by omega) (fun _ _ => rfl) (pv_f hP (fun a _ _ => f100 a (by omega))) w100 ho u100 (by omega) rfl
      have c1 : ¬ w < 0 := by omega
      have c2 : ¬ 1 < w := by omega
      simp (disch := omega) only [s73_0, s73_1, s73_4, s73_5, s73_6, s73_9, s73_10, s73_11, s73_12, s73_13, s73_15, s73_16, s73_17, s73_21, s73_22, Int.toNat_natCast, Int.toNat_natCast, Nat.reduceAdd, Nat.reduceMul, Int.reduceToNat, Int.reduceAdd, Int.reduceLT, Int.reduceLE, Int.reduceEq, Int.reduceNeg, Int.reduceMul, Int.reduceSub, Nat.reduceSub, reduceIte, ite_true, ite_false, and_true, true_and, and_self, c1, c2, m73_18 h100]
      exact lp)
    exact ⟨G', by rw [hr, hX] at hS; exact hS, hq⟩
  · have e : r73 t H P w = -1 := by unfold r73; rw [if_neg (by omega), if_neg (by omega)]
    refine ⟨G, ?_, qf_r G⟩
    refine e73 (by omega) ?_
    by_cases c1 : w < 0
    · simp (disch := omega) only [s73_0, s73_1, s73_4, s73_5, s73_6, s73_9, s73_10, Int.toNat_natCast, Int.toNat_natCast, Nat.reduceAdd, Nat.reduceMul, Int.reduceToNat, Int.reduceAdd, Int.reduceLT, Int.reduceLE, Int.reduceEq, Int.reduceNeg, Int.reduceMul, Int.reduceSub, Nat.reduceSub, reduceIte, ite_true, ite_false, and_true, true_and, and_self, c1, e]
    · have c2 : 1 < w := by omega
      simp (disch := omega) only [s73_0, s73_1, s73_4, s73_5, s73_6, s73_9, s73_10, Int.toNat_natCast, Int.toNat_natCast, Nat.reduceAdd, Nat.reduceMul, Int.reduceToNat, Int.reduceAdd, Int.reduceLT, Int.reduceLE, Int.reduceEq, Int.reduceNeg, Int.reduceMul, Int.reduceSub, Nat.reduceSub, reduceIte, ite_true, ite_false, and_true, true_and, and_self, c1, c2, e]
/-- the feeding's next m rows (this one is k) -/
def goneS (g : Int) (cl : List (Int × List Int)) (P : q_Gi) : Nat → Nat → q_Gi → q_Gi
  | 0, _, H => H
  | m + 1, k, H => if P 7 k = 6 then goneS g cl P m (k + 1) (dayS g H) else if 0 < H 5 (P 8 k).toNat then goneS g cl P m (k + 1) (eatS cl (P 7 k).toNat (P 8 k).toNat H) else goneS g cl P m (k + 1) H
theorem lp80 {d u N L n : Nat} {t g w : Int} {cl : List (Int × List Int)} {B : q_Bv} {P R : q_Gi} (hd : 7 ≤ d) (hU : upl B N u t g cl) (ho : Pok P) (hn : P 0 2 = (n : Int)) {Q : Option Value → q_H → Prop} {G0 : q_Gi} (hQ : ∀ G' x', (∀ a, (a < 8 ∨ 14 < a) → G' a = G0 a) → hv8 G' R → Hok R → G' 8 8 = (u : Int) → WP d 80 110 [.ref 0, vI w, vI n, x'] [] (hp N L B G') Q) : ∀ (m k : Nat) (G H : q_Gi) (x : Value), k + m = n → (∀ a, (a < 8 ∨ 14 < a) → G a = G0 a) → pv G P → hv8 G H → Hok H → H 0 1 + (m : Int) ≤ 20000 → H 0 2 + (m : Int) ≤ 200000 → G 8 8 = (u : Int) → nL x = true → goneS g cl P m k H = R → WP d 80 18 [.ref 0, vI w, vI k, x] [] (hp N L B G) Q := by
  intro m
  have hg : 0 ≤ g ∧ g ≤ 99 := hU.2.2.2.2.2.2.2.2.2.2.1
  have hn10 : n ≤ 10 := by have := ho.2.2.1; omega
  induction m with
  | zero =>
    intro k G H x hk h0 hP hv hoH hda hea hu hx hR
    have hkn : k = n := by omega
    subst hkn
    have hlt : ¬ ((k : Int) < (k : Int)) := by omega
    simp only [goneS] at hR
    subst hR
    have := hQ G x h0 hv hoH hu
    simp (disch := omega) only [s80_18, s80_19, m80_20, m80_23, m80_26, s80_29, Int.toNat_natCast, Int.toNat_natCast, Nat.reduceAdd, Nat.reduceMul, Int.reduceToNat, Int.reduceAdd, Int.reduceLT, Int.reduceLE, Int.reduceEq, Int.reduceNeg, Int.reduceMul, Int.reduceSub, Nat.reduceSub, reduceIte, ite_true, ite_false, and_true, true_and, and_self, hP.2.2.1.2.1, hn, hlt]
    exact this
  | succ m ih =>
    intro k G H x hk h0 hP hv hoH hda hea hu hx hR
    have hlt : ((k : Int) < (n : Int)) := by omega
    have hw := hP.2.2.1.2.2.1 k (by omega)
    have hw2 := hP.2.2.1.2.2.2.1 k (by omega)
    have hr := ho.2.2.2.2.2.2.2.2.1 k (by omega)
    have hr2 := ho.2.2.2.2.2.2.2.2.2.1 k (by omega)
    have f1 : goneS g cl P (m + 1) k H = (if P 7 k = 6 then goneS g cl P m (k + 1) (dayS g H) else if 0 < H 5 (P 8 k).toNat then goneS g cl P m (k + 1) (eatS cl (P 7 k).toNat (P 8 k).toNat H) else goneS g cl P m (k + 1) H) := rfl
    rw [f1] at hR
    rw [s80_18]
    by_cases c : P 7 k = 6
    · rw [if_pos c] at hR
      obtain ⟨G1, h14, w14, f14⟩ := sp14_8 (d := d) (L := L) (by omega) hv hoH hu hU
      have h01 : ∀ a, (a < 8 ∨ 14 < a) → G1 a = G0 a := fun a ha => by rw [f14.1 a ha, h0 a ha]
      have e1 : dayS g H 0 1 = H 0 1 + 1 := rfl
      have e2 : dayS g H 0 2 = H 0 2 := rfl
      have := ih (k + 1) G1 (dayS g H) (vI (P 8 k)) (by omega) h01 (pv_f hP (fun a _ _ => f14.1 a (by omega))) w14 (dayS_ok hg hoH (by omega)) (by omega) (by omega) (by rw [f14.2, hu]) rfl hR
      rw [show ((k + 1 : Nat) : Int) = (k : Int) + 1 from rfl] at this
      simp (disch := first | omega | assumption) only [s80_19, m80_20, m80_23, m80_26, s80_29, s80_32, m80_33, m80_36, m80_39, s80_42, m80_43, s80_44, s80_45, m80_46, m80_49, m80_52, s80_55, m80_56, s80_57, s80_59, s80_59b, s80_62, m80_63, s80_69, s80_72, m80_73, m80_76, s80_79, m80_80, s80_81, s80_84, m80_85, s80_88, m80_89, m80_92, m80_95, s80_98, m80_99, s80_100, s80_104, s80_107, Int.toNat_natCast, Int.toNat_natCast, Nat.reduceAdd, Nat.reduceMul, Int.reduceToNat, Int.reduceAdd, Int.reduceLT, Int.reduceLE, Int.reduceEq, Int.reduceNeg, Int.reduceMul, Int.reduceSub, Nat.reduceSub, reduceIte, ite_true, ite_false, and_true, true_and, and_self, hP.2.2.1.2.1, hn, hlt, hw, hw2, c, m80_66 h14]
      exact this
    · rw [if_neg c] at hR
      obtain ⟨b, hb⟩ : ∃ b : Nat, P 7 k = (b : Int) := ⟨(P 7 k).toNat, by omega⟩
      obtain ⟨e, he⟩ : ∃ e : Nat, P 8 k = (e : Int) := ⟨(P 8 k).toNat, by omega⟩
      rw [hb, he, Int.toNat_natCast, Int.toNat_natCast] at hR
      have h5 := hoH.2.2.2.2.2.1 e (by omega)
      have v5 := hv.2.2.2.2.2.2.2 e (by omega)
      rw [hb] at c
      by_cases c2 : 0 < H 5 e
      · rw [if_pos c2] at hR
        obtain ⟨G1, h13, w13, f13⟩ := sp13_8 (d := d) (L := L) (b := b) (e := e) (by omega) (by omega) (by omega) hv hoH hu hU
        have h01 : ∀ a, (a < 8 ∨ 14 < a) → G1 a = G0 a := fun a ha => by rw [f13.1 a ha, h0 a ha]
        have e1 : eatS cl b e H 0 1 = H 0 1 := rfl
        have e2 : eatS cl b e H 0 2 = H 0 2 + 1 := rfl
        have := ih (k + 1) G1 (eatS cl b e H) (vI (P 8 k)) (by omega) h01 (pv_f hP (fun a _ _ => f13.1 a (by omega))) w13 (eatS_ok hU hoH (by omega) (by omega) c2 (by omega)) (by omega) (by omega) (by rw [f13.2, hu]) rfl hR
        rw [show ((k + 1 : Nat) : Int) = (k : Int) + 1 from rfl, he] at this
        simp (disch := first | omega | assumption) only [s80_19, m80_20, m80_23, m80_26, s80_29, s80_32, m80_33, m80_36, m80_39, s80_42, m80_43, s80_44, s80_45, m80_46, m80_49, m80_52, s80_55, m80_56, s80_57, s80_59, s80_59b, s80_62, m80_63, s80_69, s80_72, m80_73, m80_76, s80_79, m80_80, s80_81, s80_84, m80_85, s80_88, m80_89, m80_92, m80_95, s80_98, m80_99, s80_100, s80_104, s80_107, Int.toNat_natCast, Int.toNat_natCast, Nat.reduceAdd, Nat.reduceMul, Int.reduceToNat, Int.reduceAdd, Int.reduceLT, Int.reduceLE, Int.reduceEq, Int.reduceNeg, Int.reduceMul, Int.reduceSub, Nat.reduceSub, reduceIte, ite_true, ite_false, and_true, true_and, and_self, hP.2.2.1.2.1, hn, hlt, hw, hw2, hb, he, c, v5, c2, m80_101 h13]
        exact this
      · rw [if_neg c2] at hR
        have := ih (k + 1) G H (vI (P 8 k)) (by omega) h0 hP hv hoH (by omega) (by omega) hu rfl hR
        rw [show ((k + 1 : Nat) : Int) = (k : Int) + 1 from rfl, he] at this
        simp (disch := first | omega | assumption) only [s80_19, m80_20, m80_23, m80_26, s80_29, s80_32, m80_33, m80_36, m80_39, s80_42, m80_43, s80_44, s80_45, m80_46, m80_49, m80_52, s80_55, m80_56, s80_57, s80_59, s80_59b, s80_62, m80_63, s80_69, s80_72, m80_73, m80_76, s80_79, m80_80, s80_81, s80_84, m80_85, s80_88, m80_89, m80_92, m80_95, s80_98, m80_99, s80_100, s80_104, s80_107, Int.toNat_natCast, Int.toNat_natCast, Nat.reduceAdd, Nat.reduceMul, Int.reduceToNat, Int.reduceAdd, Int.reduceLT, Int.reduceLE, Int.reduceEq, Int.reduceNeg, Int.reduceMul, Int.reduceSub, Nat.reduceSub, reduceIte, ite_true, ite_false, and_true, true_and, and_self, hP.2.2.1.2.1, hn, hlt, hw, hw2, hb, he, c, v5, c2]
        exact this
def r80 (t g : Int) (cl : List (Int × List Int)) (H P : q_Gi) (w : Int) : Int := if w = 0 then goneS g cl P (P 0 2).toNat 0 H 0 2 - H 0 2 else if w = 1 then tbS (tunS t (goneS g cl P (P 0 2).toNat 0 H)) (H 0 0).toNat else -1
theorem goneS_cnt (g : Int) (cl : List (Int × List Int)) (P : q_Gi) : ∀ (m k : Nat) (H : q_Gi), goneS g cl P m k H 0 0 = H 0 0 := by
  intro m
  induction m with
  | zero => intro k H; rfl
  | succ m ih =>
    intro k H
    unfold goneS
    split
    · rw [ih]; rfl
    · split
      · rw [ih]; rfl
      · rw [ih]
theorem sp80 {d u N L : Nat} {t g w : Int} {cl : List (Int × List Int)} {B : q_Bv} {G H P : q_Gi} (hd : 9 ≤ d) (hv : hv1 G H) (ho : Hok H) (hday : H 0 1 ≤ 9999) (heat : H 0 2 ≤ 99999) (hu : G 1 8 = (u : Int)) (hU : upl B N u t g cl) (hP : pv G P) (hPo : Pok P) (hw : -2147483648 ≤ w ∧ w ≤ 2147483647) : ∃ G', Sp d 80 [.ref 0, vI w] (hp N L B G) (some (vI (r80 t g cl H P w))) (hp N L B G') ∧ qf G G' := by
  by_cases c0 : w = 0 ∨ w = 1
  · obtain ⟨n, hn⟩ : ∃ n : Nat, P 0 2 = (n : Int) := ⟨(P 0 2).toNat, by have := hPo.2.2.1; omega⟩
    have hn10 : n ≤ 10 := by have := hPo.2.2.1; omega
    obtain ⟨c, hc⟩ : ∃ c : Nat, H 0 0 = (c : Int) := ⟨(H 0 0).toNat, by have := ho.1; omega⟩
    obtain ⟨G1, h100, w100, o100, u100, f100⟩ := sp100 (d := d - 1) (L := L) (n := 0) (by omega) (by omega) hv ho (by omega) hu hU
    have h100 : Sp (d - 1) 100 [.ref 0, vI 0] (hp N L B G) none (hp N L B G1) := h100
    obtain ⟨r, X', hS, G', hr, hX, hq⟩ := E80 (d := d) (X := hp N L B G) (z1 := w) (Q := fun r X => ∃ G', r = some (vI (r80 t g cl H P w)) ∧ X = hp N L B G' ∧ qf G G') (by omega) (by
      have lp := lp80 (d := d - 1) (u := u) (N := N) (L := L) (n := n) (t := t) (g := g) (w := w) (cl := cl) (B := B) (P := P) (R := goneS g cl P n 0 H) (by omega) hU hPo hn (G0 := G1) (Q := fun r X => ∃ G', r = some (vI (r80 t g cl H P w)) ∧ X = hp N L B G' ∧ qf G G') (by
        intro G' x' hG' hvR hoR huR
        have hq : qf G G' := fun a ha => by rw [hG' a (by omega), f100 a (by omega)]
        have e1 : G' 1 7 = H 0 2 := by rw [hG' 1 (by omega), f100 1 (by omega)]; exact hv.2.2.1
        rcases c0 with rfl | rfl
        · simp (disch := omega) only [s80_110, s80_111, s80_111b, s80_114, m80_115, m80_118, s80_121, m80_122, m80_125, s80_128, s80_129, s80_132, m80_133, s80_139, Int.toNat_natCast, Int.toNat_natCast, Nat.reduceAdd, Nat.reduceMul, Int.reduceToNat, Int.reduceAdd, Int.reduceLT, Int.reduceLE, Int.reduceEq, Int.reduceNeg, Int.reduceMul, Int.reduceSub, Nat.reduceSub, reduceIte, ite_true, ite_false, and_true, true_and, and_self, hvR.2.2.1, e1]
          exact ⟨G', by simp only [r80, hn, Int.toNat_natCast, if_true], rfl, hq⟩
        · have h10 := sp10_8 (d := d - 1) (L := L) (by omega) hvR hoR (by rw [goneS_cnt]; exact hc) huR hU
          simp (disch := omega) only [s80_110, s80_111, s80_111b, s80_114, m80_115, m80_118, s80_121, m80_122, m80_125, s80_128, s80_129, s80_132, m80_133, s80_139, Int.toNat_natCast, Int.toNat_natCast, Nat.reduceAdd, Nat.reduceMul, Int.reduceToNat, Int.reduceAdd, Int.reduceLT, Int.reduceLE, Int.reduceEq, Int.reduceNeg, Int.reduceMul, Int.reduceSub, Nat.reduceSub, reduceIte, ite_true, ite_false, and_true, true_and, and_self, m80_136 h10]
          exact ⟨G', by simp only [r80, hn, hc, Int.toNat_natCast, Int.toNat_natCast, Int.toNat_natCast, Nat.reduceAdd, Nat.reduceMul, Int.reduceToNat, Int.reduceAdd, Int.reduceLT, Int.reduceLE, Int.reduceEq, Int.reduceNeg, Int.reduceMul, Int.reduceSub, Nat.reduceSub, reduceIte, ite_true, ite_false, and_true, true_and, and_self], rfl, hq⟩) n 0 G1 H .null (by omega) (fun _ _ => rfl) (pv_f hP (fun a _ _ => f100 a (by omega))) w100 ho (by omega) (by omega) u100 rfl rfl
      have c1 : ¬ w < 0 := by omega
      have c2 : ¬ 1 < w := by omega
      simp (disch := omega) only [s80_0, s80_1, s80_4, s80_5, s80_6, s80_9, s80_10, s80_11, s80_12, s80_16, s80_17, Int.toNat_natCast, Int.toNat_natCast, Nat.reduceAdd, Nat.reduceMul, Int.reduceToNat, Int.reduceAdd, Int.reduceLT, Int.reduceLE, Int.reduceEq, Int.reduceNeg, Int.reduceMul, Int.reduceSub, Nat.reduceSub, reduceIte, ite_true, ite_false, and_true, true_and, and_self, c1, c2, m80_13 h100]
      exact lp)
    exact ⟨G', by rw [hr, hX] at hS; exact hS, hq⟩
  · have e : r80 t g cl H P w = -1 := by unfold r80; rw [if_neg (by omega), if_neg (by omega)]
    refine ⟨G, ?_, qf_r G⟩
    refine e80 (by omega) ?_
    by_cases c1 : w < 0
    · simp (disch := omega) only [s80_0, s80_1, s80_4, s80_5, s80_6, s80_9, s80_10, Int.toNat_natCast, Int.toNat_natCast, Nat.reduceAdd, Nat.reduceMul, Int.reduceToNat, Int.reduceAdd, Int.reduceLT, Int.reduceLE, Int.reduceEq, Int.reduceNeg, Int.reduceMul, Int.reduceSub, Nat.reduceSub, reduceIte, ite_true, ite_false, and_true, true_and, and_self, c1, e]
    · have c2 : 1 < w := by omega
      simp (disch := omega) only [s80_0, s80_1, s80_4, s80_5, s80_6, s80_9, s80_10, Int.toNat_natCast, Int.toNat_natCast, Nat.reduceAdd, Nat.reduceMul, Int.reduceToNat, Int.reduceAdd, Int.reduceLT, Int.reduceLE, Int.reduceEq, Int.reduceNeg, Int.reduceMul, Int.reduceSub, Nat.reduceSub, reduceIte, ite_true, ite_false, and_true, true_and, and_self, c1, c2, e]
/-- the first of the book's next m rows (this one is k) by which it is otherwise -/
def lookS (H P : q_Gi) : Nat → Nat → Int
  | 0, _ => -5
  | m + 1, k => if H 3 (P 10 k).toNat = P 11 k then lookS H P m (k + 1) else (k : Int)
theorem lp82 {d N L n : Nat} {B : q_Bv} {G H P : q_Gi} {R : Int} (hv : hv1 G H) (hoH : Hok H) (hP : pv G P) (ho : Pok P) (hn : P 0 3 = (n : Int)) : ∀ (m k : Nat), k + m = n → lookS H P m k = R → WP d 82 2 [.ref 0, vI k] [] (hp N L B G) (fun r1 X1 => r1 = some (vI R) ∧ X1 = hp N L B G) := by
  intro m
  have hn10 : n ≤ 8 := by have := ho.2.2.2.1; omega
  induction m with
  | zero =>
    intro k hk hR
    have hkn : k = n := by omega
    subst hkn
    have hlt : ¬ ((k : Int) < (k : Int)) := by omega
    simp only [lookS] at hR
    simp (disch := omega) only [s82_2, s82_3, m82_4, m82_7, m82_10, s82_13, s82_59, s82_61, Int.toNat_natCast, Int.toNat_natCast, Nat.reduceAdd, Nat.reduceMul, Int.reduceToNat, Int.reduceAdd, Int.reduceLT, Int.reduceLE, Int.reduceEq, Int.reduceNeg, Int.reduceMul, Int.reduceSub, Nat.reduceSub, reduceIte, ite_true, ite_false, and_true, true_and, and_self, hP.2.2.2.2.1, hn, hlt]
    rw [hR]
  | succ m ih =>
    intro k hk hR
    have hlt : ((k : Int) < (n : Int)) := by omega
    have hw := hP.2.2.2.2.2.1 k (by omega)
    have hw2 := hP.2.2.2.2.2.2.1 k (by omega)
    have hr := ho.2.2.2.2.2.2.2.2.2.2.1 k (by omega)
    have hr2 := ho.2.2.2.2.2.2.2.2.2.2.2.1 k (by omega)
    obtain ⟨b, hb⟩ : ∃ b : Nat, P 10 k = (b : Int) := ⟨(P 10 k).toNat, by omega⟩
    have h3 := hoH.2.2.2.1 b (by omega)
    have v3 := hv.2.2.2.2.2.1 b (by omega)
    simp only [lookS, hb, Int.toNat_natCast] at hR
    rw [s82_2]
    simp (disch := omega) only [s82_3, m82_4, m82_7, m82_10, s82_13, s82_16, m82_17, m82_20, s82_23, m82_24, m82_27, m82_30, s82_33, m82_34, m82_35, s82_36, m82_37, m82_40, m82_43, s82_46, m82_47, s82_48, s82_48b, s82_51, s82_52, s82_53, s82_56, Int.toNat_natCast, Int.toNat_natCast, Nat.reduceAdd, Nat.reduceMul, Int.reduceToNat, Int.reduceAdd, Int.reduceLT, Int.reduceLE, Int.reduceEq, Int.reduceNeg, Int.reduceMul, Int.reduceSub, Nat.reduceSub, reduceIte, ite_true, ite_false, and_true, true_and, and_self, hP.2.2.2.2.1, hn, hlt, hw, hw2, hb, v3]
    by_cases c : H 3 b = P 11 k
    · rw [if_pos c] at hR ⊢
      exact ih (k + 1) (by omega) hR
    · rw [if_neg c] at hR ⊢
      rw [hR]
theorem sp82 {d N L : Nat} {B : q_Bv} {G H P : q_Gi} (hd : 2 ≤ d) (hv : hv1 G H) (hoH : Hok H) (hP : pv G P) (ho : Pok P) : Sp d 82 [.ref 0] (hp N L B G) (some (vI (lookS H P (P 0 3).toNat 0))) (hp N L B G) := by
  obtain ⟨n, hn⟩ : ∃ n : Nat, P 0 3 = (n : Int) := ⟨(P 0 3).toNat, by have := ho.2.2.2.1; omega⟩
  refine e82 (by omega) ?_
  have lp := lp82 (d := d - 1) (N := N) (L := L) (B := B) hv hoH hP ho hn n 0 (by omega) (R := lookS H P (P 0 3).toNat 0) (by rw [hn]; rfl)
  simp (disch := omega) only [s82_0, s82_1, Int.toNat_natCast, Int.toNat_natCast, Nat.reduceAdd, Nat.reduceMul, Int.reduceToNat, Int.reduceAdd, Int.reduceLT, Int.reduceLE, Int.reduceEq, Int.reduceNeg, Int.reduceMul, Int.reduceSub, Nat.reduceSub, reduceIte, ite_true, ite_false, and_true, true_and, and_self]
  exact lp
