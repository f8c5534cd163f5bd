/-! FILLS -/
def envS (b f k v fd dd : Int) : Nat → Int := fun j => if j = 0 then b else if j = 1 then f else if j = 2 then k else if j = 3 then v else if j = 4 then fd else dd
def fillsS (cl : List (Int × List Int)) (k v b f fd day : Int) : Int := if k = 3 then likingS (envS b f k v (fd / 10) (day % 10)) (5 * (f + 1)) cl / 2 else if k = 4 then min (likingS (envS b f k v (fd / 10) (day % 10)) (5 * (f + 1)) cl) 4 else if k = 5 then 0 else if k = 6 then likingS (envS b f k v (fd / 10) (day % 10)) (5 * (f + 1)) cl / 2 + v else likingS (envS b f k v (fd / 10) (day % 10)) (5 * (f + 1)) cl
theorem testS_c {E E' : Nat → Int} (h : ∀ j, j < 6 → E j = E' j) {t : Int} (ht : isTest t) : testS E t = testS E' t := by
  unfold testS
  rw [h (t / 1000).toNat (by unfold isTest at ht; omega)]
theorem evalS_c {E E' : Nat → Int} (h : ∀ j, j < 6 → E j = E' j) : ∀ (l : List Int) (bs : List Bool), okS l bs.length → evalS E l bs = evalS E' l bs := by
  intro l
  induction l with
  | nil => intro bs _; rfl
  | cons t l ih =>
    intro bs hk
    have hs : stepS E t bs = stepS E' t bs ∧ okS l (stepS E' t bs).length := by
      unfold stepS
      rcases hk with ⟨rfl, h1, h2⟩ | ⟨h0, h1, h2⟩ | ⟨h0, h1, h2⟩
      · rw [if_pos rfl, if_pos rfl]
        match bs, h1, h2 with
        | b :: r, h1, h2 => exact ⟨rfl, h2⟩
      · match bs, h1, h2 with
        | b :: a :: r, h1, h2 =>
          rcases h0 with rfl | rfl
          · simp only [Int.toNat_natCast, Int.toNat_natCast, Nat.reduceAdd, Nat.reduceMul, Int.reduceToNat, Int.reduceAdd, Int.reduceLT, Int.reduceLE, Int.reduceEq, Int.reduceNeg, Int.reduceMul, Int.reduceSub, Nat.reduceSub, reduceIte, ite_true, ite_false, and_true, true_and, and_self]; exact h2
          · simp only [Int.toNat_natCast, Int.toNat_natCast, Nat.reduceAdd, Nat.reduceMul, Int.reduceToNat, Int.reduceAdd, Int.reduceLT, Int.reduceLE, Int.reduceEq, Int.reduceNeg, Int.reduceMul, Int.reduceSub, Nat.reduceSub, reduceIte, ite_true, ite_false, and_true, true_and, and_self]; exact h2
      · have n1 : ¬ t = -3 := by unfold isTest at h0; omega
        have n2 : ¬ t = -1 := by unfold isTest at h0; omega
        have n3 : ¬ t = -2 := by unfold isTest at h0; omega
        rw [if_neg n1, if_neg n2, if_neg n3, if_neg n1, if_neg n2, if_neg n3, testS_c h h0]
        exact ⟨rfl, h2⟩
    unfold evalS
    rw [hs.1]
    exact ih _ hs.2
theorem holdsS_c {E E' : Nat → Int} (h : ∀ j, j < 6 → E j = E' j) {l : List Int} (hk : okS l 0) : holdsS E l = holdsS E' l := by
  unfold holdsS
  rw [evalS_c h l [] hk]
theorem sumS_c {E E' : Nat → Int} (h : ∀ j, j < 6 → E j = E' j) : ∀ (cl : List (Int × List Int)) (s : Int), (∀ c, c ∈ cl → (-99 ≤ c.1 ∧ c.1 ≤ 99) ∧ okS c.2 0) → sumS E cl s = sumS E' cl s := by
  intro cl
  induction cl with
  | nil => intro s _; rfl
  | cons c cl ih =>
    obtain ⟨a, l⟩ := c
    intro s hok
    unfold sumS
    rw [holdsS_c h (hok (a, l) (List.mem_cons_self)).2]
    exact ih _ (fun c hc => hok c (List.mem_cons_of_mem _ hc))
theorem likingS_c {E E' : Nat → Int} (h : ∀ j, j < 6 → E j = E' j) {cl : List (Int × List Int)} {f : Int} (hok : ∀ c, c ∈ cl → (-99 ≤ c.1 ∧ c.1 ≤ 99) ∧ okS c.2 0) : likingS E f cl = likingS E' f cl := by
  unfold likingS
  rw [sumS_c h cl f hok]
theorem ro_1001 {f : Nat} (hf : f < 4) : q_ro 1001 f = vI (5 * ((f : Int) + 1)) := by
  match f, hf with
  | 0, _ => rfl
  | 1, _ => rfl
  | 2, _ => rfl
  | 3, _ => rfl
theorem fillsS_r {cl : List (Int × List Int)} {B : q_Bv} {N u : Nat} {t g k v b f fd day : Int} (hU : upl B N u t g cl) (hf : 0 ≤ f ∧ f < 4) (hv : 0 ≤ v ∧ v ≤ 9) : 0 ≤ fillsS cl k v b f fd day ∧ fillsS cl k v b f fd day ≤ 3000 := by
  have := @likingS_r (envS b f k v (fd / 10) (day % 10)) B N u t g (5 * (f + 1)) cl hU (by omega)
  unfold fillsS
  (repeat' split) <;> omega
theorem sp11_1 {d b f u N L : Nat} {t g fd : Int} {cl : List (Int × List Int)} {B : q_Bv} {G : q_Gi} (hd : 4 ≤ d) (ho : hok1 G) (hu : G 1 8 = (u : Int)) (hU : upl B N u t g cl) (hb : b < 6) (hf : f < 4) (hfd : 0 ≤ fd ∧ fd ≤ 1000) : ∃ G', Sp d 11 [.ref 1, vI b, vI f, vI fd] (hp N L B G) (some (vI (fillsS cl (G 2 b) (G 3 b) b f fd (G 1 6)))) (hp N L B G') ∧ ∀ a, a ≠ 7 → G' a = G a := by
  have k1 := ho.1 b hb
  have k2 := ho.2.1 b hb
  have k6 := ho.2.2.2
  have u2 := hU.2.1
  have u149 := (uarr_of hU.1 u2).2.2.2.2.2
  have lr := @likingS_r (envS b f (G 2 b) (G 3 b) (fd / 10) (G 1 6 % 10)) B N u t g (5 * ((f : Int) + 1)) cl hU (by omega)
  refine ⟨ug (ug (ug (ug (ug (ug G 7 0 b) 7 1 f) 7 2 (G 2 b)) 7 3 (G 3 b)) 7 4 (fd / 10)) 7 5 (G 1 6 % 10), ?_, fun a ha => by simp only [ug_ne ha]⟩
  generalize hG : ug (ug (ug (ug (ug (ug G 7 0 b) 7 1 f) 7 2 (G 2 b)) 7 3 (G 3 b)) 7 4 (fd / 10)) 7 5 (G 1 6 % 10) = G2
  have hE : ∀ j, j < 6 → G2 7 j = envS b f (G 2 b) (G 3 b) (fd / 10) (G 1 6 % 10) j := by
    intro j hj
    subst hG
    match j, hj with
    | 0, _ => rfl
    | 1, _ => rfl
    | 2, _ => rfl
    | 3, _ => rfl
    | 4, _ => rfl
    | 5, _ => rfl
  have hl : lset G2 7 := by
    intro j hj
    rw [hE j hj]
    unfold envS
    (repeat' split) <;> omega
  have hfr : ∀ a, a ≠ 7 → G2 a = G a := by
    intro a ha
    subst hG
    simp only [ug_ne ha]
  have h50 := sp50_7 (d := d - 1) (L := L) (f := 5 * ((f : Int) + 1)) (by omega) hU hl (by omega)
  rw [likingS_c hE hU.2.2.2.2.2.2.2.2.2.2.2.2.2] at h50
  refine e11 (by omega) ?_
  simp (disch := first | omega | assumption) only [s11_0, m11_1_1, m11_1_8, s11_4, s11_5, m11_6_14, m11_6_7, s11_7, m11_8_1, m11_8_8, s11_11, s11_12, m11_13_14, m11_13_7, s11_14, m11_15_1, m11_15_8, s11_18, s11_19, m11_20_1, m11_20_8, s11_23, m11_24_2, m11_24_9, m11_25_14, m11_25_7, s11_26, m11_27_1, m11_27_8, s11_30, s11_31, m11_32_1, m11_32_8, s11_35, m11_36_10, m11_36_3, m11_37_14, m11_37_7, s11_38, m11_39_1, m11_39_8, s11_42, s11_43, s11_44, s11_46, m11_47_14, m11_47_7, s11_48, m11_49_1, m11_49_8, s11_52, s11_53, m11_54_1, m11_54_8, s11_57, s11_59, m11_60_14, m11_60_7, s11_61, m11_62_1, m11_62_8, s11_65, s11_68, s11_69, s11_70, m11_71_1, m11_71_8, Int.toNat_natCast, Int.toNat_natCast, Nat.reduceAdd, Nat.reduceMul, Int.reduceToNat, Int.reduceAdd, Int.reduceLT, Int.reduceLE, Int.reduceEq, Int.reduceNeg, Int.reduceMul, Int.reduceSub, Nat.reduceSub, reduceIte, ite_true, ite_false, and_true, true_and, and_self, ug_ne, hG, hu, ro_1001]
  simp (disch := first | omega | assumption) only [hfr, hu, m11_74 hU.1 (by omega) h50, s11_77, s11_79, m11_80_1, m11_80_8, s11_83, m11_84_2, m11_84_9, s11_85, s11_116, s11_118, s11_119, s11_120, s11_121, s11_123, s11_124, s11_127, s11_128, s11_129, s11_130, s11_132, s11_133, s11_134, m11_135_1, m11_135_8, s11_138, m11_139_10, m11_139_3, s11_140, s11_141, s11_142, s11_144, Int.toNat_natCast, Int.toNat_natCast, Nat.reduceAdd, Nat.reduceMul, Int.reduceToNat, Int.reduceAdd, Int.reduceLT, Int.reduceLE, Int.reduceEq, Int.reduceNeg, Int.reduceMul, Int.reduceSub, Nat.reduceSub, reduceIte, ite_true, ite_false, and_true, true_and, and_self]
  repeat' split
  all_goals simp only [fillsS, *, Int.toNat_natCast, Int.toNat_natCast, Nat.reduceAdd, Nat.reduceMul, Int.reduceToNat, Int.reduceAdd, Int.reduceLT, Int.reduceLE, Int.reduceEq, Int.reduceNeg, Int.reduceMul, Int.reduceSub, Nat.reduceSub, reduceIte, ite_true, ite_false, and_true, true_and, and_self]
theorem sp12_1 {d b f u N L : Nat} {t g fd : Int} {cl : List (Int × List Int)} {B : q_Bv} {G : q_Gi} (hd : 5 ≤ d) (ho : hok1 G) (hu : G 1 8 = (u : Int)) (hU : upl B N u t g cl) (hb : b < 6) (hf : f < 4) (hfd : 0 ≤ fd ∧ fd ≤ 1000) : ∃ G', Sp d 12 [.ref 1, vI b, vI f, vI fd] (hp N L B G) (some (vI (min 99 (fd + fillsS cl (G 2 b) (G 3 b) b f fd (G 1 6))))) (hp N L B G') ∧ ∀ a, a ≠ 7 → G' a = G a := by
  obtain ⟨G', h11, hfr⟩ := sp11_1 (d := d - 1) (L := L) (by omega) ho hu hU hb hf hfd
  refine ⟨G', ?_, hfr⟩
  have k2 := ho.2.1 b hb
  have lr := @fillsS_r cl B N u t g (G 2 b) (G 3 b) b f fd (G 1 6) hU (by omega) k2
  refine e12 (by omega) ?_
  simp (disch := first | omega | assumption) only [s12_0, s12_2, s12_3, s12_4, s12_5, s12_6, s12_10, s12_11, s12_14, Int.toNat_natCast, Int.toNat_natCast, Nat.reduceAdd, Nat.reduceMul, Int.reduceToNat, Int.reduceAdd, Int.reduceLT, Int.reduceLE, Int.reduceEq, Int.reduceNeg, Int.reduceMul, Int.reduceSub, Nat.reduceSub, reduceIte, ite_true, ite_false, and_true, true_and, and_self, m12_7_1 h11]
theorem sp11_8 {d b f u N L : Nat} {t g fd : Int} {cl : List (Int × List Int)} {B : q_Bv} {G : q_Gi} (hd : 4 ≤ d) (ho : hok8 G) (hu : G 8 8 = (u : Int)) (hU : upl B N u t g cl) (hb : b < 6) (hf : f < 4) (hfd : 0 ≤ fd ∧ fd ≤ 1000) : ∃ G', Sp d 11 [.ref 8, vI b, vI f, vI fd] (hp N L B G) (some (vI (fillsS cl (G 9 b) (G 10 b) b f fd (G 8 6)))) (hp N L B G') ∧ ∀ a, a ≠ 14 → G' a = G a := by
  have k1 := ho.1 b hb
  have k2 := ho.2.1 b hb
  have k6 := ho.2.2.2
  have u2 := hU.2.1
  have u149 := (uarr_of hU.1 u2).2.2.2.2.2
  have lr := @likingS_r (envS b f (G 9 b) (G 10 b) (fd / 10) (G 8 6 % 10)) B N u t g (5 * ((f : Int) + 1)) cl hU (by omega)
  refine ⟨ug (ug (ug (ug (ug (ug G 14 0 b) 14 1 f) 14 2 (G 9 b)) 14 3 (G 10 b)) 14 4 (fd / 10)) 14 5 (G 8 6 % 10), ?_, fun a ha => by simp only [ug_ne ha]⟩
  generalize hG : ug (ug (ug (ug (ug (ug G 14 0 b) 14 1 f) 14 2 (G 9 b)) 14 3 (G 10 b)) 14 4 (fd / 10)) 14 5 (G 8 6 % 10) = G2
  have hE : ∀ j, j < 6 → G2 14 j = envS b f (G 9 b) (G 10 b) (fd / 10) (G 8 6 % 10) j := by
    intro j hj
    subst hG
    match j, hj with
    | 0, _ => rfl
    | 1, _ => rfl
    | 2, _ => rfl
    | 3, _ => rfl
    | 4, _ => rfl
    | 5, _ => rfl
  have hl : lset G2 14 := by
    intro j hj
    rw [hE j hj]
    unfold envS
    (repeat' split) <;> omega
  have hfr : ∀ a, a ≠ 14 → G2 a = G a := by
    intro a ha
    subst hG
    simp only [ug_ne ha]
  have h50 := sp50_14 (d := d - 1) (L := L) (f := 5 * ((f : Int) + 1)) (by omega) hU hl (by omega)
  rw [likingS_c hE hU.2.2.2.2.2.2.2.2.2.2.2.2.2] at h50
  refine e11 (by omega) ?_
  simp (disch := first | omega | assumption) only [s11_0, m11_1_1, m11_1_8, s11_4, s11_5, m11_6_14, m11_6_7, s11_7, m11_8_1, m11_8_8, s11_11, s11_12, m11_13_14, m11_13_7, s11_14, m11_15_1, m11_15_8, s11_18, s11_19, m11_20_1, m11_20_8, s11_23, m11_24_2, m11_24_9, m11_25_14, m11_25_7, s11_26, m11_27_1, m11_27_8, s11_30, s11_31, m11_32_1, m11_32_8, s11_35, m11_36_10, m11_36_3, m11_37_14, m11_37_7, s11_38, m11_39_1, m11_39_8, s11_42, s11_43, s11_44, s11_46, m11_47_14, m11_47_7, s11_48, m11_49_1, m11_49_8, s11_52, s11_53, m11_54_1, m11_54_8, s11_57, s11_59, m11_60_14, m11_60_7, s11_61, m11_62_1, m11_62_8, s11_65, s11_68, s11_69, s11_70, m11_71_1, m11_71_8, Int.toNat_natCast, Int.toNat_natCast, Nat.reduceAdd, Nat.reduceMul, Int.reduceToNat, Int.reduceAdd, Int.reduceLT, Int.reduceLE, Int.reduceEq, Int.reduceNeg, Int.reduceMul, Int.reduceSub, Nat.reduceSub, reduceIte, ite_true, ite_false, and_true, true_and, and_self, ug_ne, hG, hu, ro_1001]
  simp (disch := first | omega | assumption) only [hfr, hu, m11_74 hU.1 (by omega) h50, s11_77, s11_79, m11_80_1, m11_80_8, s11_83, m11_84_2, m11_84_9, s11_85, s11_116, s11_118, s11_119, s11_120, s11_121, s11_123, s11_124, s11_127, s11_128, s11_129, s11_130, s11_132, s11_133, s11_134, m11_135_1, m11_135_8, s11_138, m11_139_10, m11_139_3, s11_140, s11_141, s11_142, s11_144, Int.toNat_natCast, Int.toNat_natCast, Nat.reduceAdd, Nat.reduceMul, Int.reduceToNat, Int.reduceAdd, Int.reduceLT, Int.reduceLE, Int.reduceEq, Int.reduceNeg, Int.reduceMul, Int.reduceSub, Nat.reduceSub, reduceIte, ite_true, ite_false, and_true, true_and, and_self]
  repeat' split
  all_goals simp only [fillsS, *, Int.toNat_natCast, Int.toNat_natCast, Nat.reduceAdd, Nat.reduceMul, Int.reduceToNat, Int.reduceAdd, Int.reduceLT, Int.reduceLE, Int.reduceEq, Int.reduceNeg, Int.reduceMul, Int.reduceSub, Nat.reduceSub, reduceIte, ite_true, ite_false, and_true, true_and, and_self]
theorem sp12_8 {d b f u N L : Nat} {t g fd : Int} {cl : List (Int × List Int)} {B : q_Bv} {G : q_Gi} (hd : 5 ≤ d) (ho : hok8 G) (hu : G 8 8 = (u : Int)) (hU : upl B N u t g cl) (hb : b < 6) (hf : f < 4) (hfd : 0 ≤ fd ∧ fd ≤ 1000) : ∃ G', Sp d 12 [.ref 8, vI b, vI f, vI fd] (hp N L B G) (some (vI (min 99 (fd + fillsS cl (G 9 b) (G 10 b) b f fd (G 8 6))))) (hp N L B G') ∧ ∀ a, a ≠ 14 → G' a = G a := by
  obtain ⟨G', h11, hfr⟩ := sp11_8 (d := d - 1) (L := L) (by omega) ho hu hU hb hf hfd
  refine ⟨G', ?_, hfr⟩
  have k2 := ho.2.1 b hb
  have lr := @fillsS_r cl B N u t g (G 9 b) (G 10 b) b f fd (G 8 6) hU (by omega) k2
  refine e12 (by omega) ?_
  simp (disch := first | omega | assumption) only [s12_0, s12_2, s12_3, s12_4, s12_5, s12_6, s12_10, s12_11, s12_14, Int.toNat_natCast, Int.toNat_natCast, Nat.reduceAdd, Nat.reduceMul, Int.reduceToNat, Int.reduceAdd, Int.reduceLT, Int.reduceLE, Int.reduceEq, Int.reduceNeg, Int.reduceMul, Int.reduceSub, Nat.reduceSub, reduceIte, ite_true, ite_false, and_true, true_and, and_self, m12_7_8 h11]
