/-! the model reads a clause and a text -/
def hdW (nx : Nat → Int) (p : Nat) : Int := if nx p = 116 then 2 else if nx p = 103 then 3 else if nx (p + 1) = 105 then 0 else 1
def hdL (nx : Nat → Int) (p : Nat) : List Int := if nx p = 116 then wdT else if nx p = 103 then wdG else if nx (p + 1) = 105 then wdI else wdO
theorem sp134 {d c n p N L : Nat} {B : q_Bv} {G : q_Gi} {nx : Nat → Int} (hd : 4 ≤ d) (hc : c < 60) (h : mrd G n nx) (hl : ltr G) (ha : G 82 11 = (p : Int)) (hpn : p ≤ n) : Sp d 134 [.ref 82, vI c] (hp N L B G) (some (vI (bI ((wrdS nx (hdL nx p) p).1 = true)))) (hp N L B (ug (ug G 90 c (hdW nx p)) 82 11 ((wrdS nx (hdL nx p) p).2 : Nat))) := by
  have h122 := sp122 (d := d - 1) (N := N) (L := L) (B := B) (by omega) h ha hpn
  have h123 := sp123 (d := d - 1) (N := N) (L := L) (B := B) (by omega) h ha hpn
  have hr := nx_r h.2.2.2 p
  have hr1 := nx_r h.2.2.2 (p + 1)
  have hm : ∀ z : Int, mrd (ug G 90 c z) n nx := fun z => mrd_n h (by omega) (by omega)
  have hl' : ∀ z : Int, ltr (ug G 90 c z) := fun z j hj => by rw [ug_ne (by omega)]; exact hl j hj
  have ha' : ∀ z : Int, ug G 90 c z 82 11 = (p : Int) := fun z => by rw [ug_ne (by omega)]; exact ha
  unfold hdL hdW
  refine e134 (by omega) ?_
  by_cases c1 : nx p = 116
  · rw [if_pos c1, if_pos c1]
    rw [c1] at h122
    have h125 := sp125_0 (d := d - 1) (N := N) (L := L) (B := B) (by omega) (hm 2) (hl' 2) (ha' 2) hpn
    simp (disch := omega) only [s134_0, s134_4, s134_32, m134_33, s134_36, s134_37, m134_38, s134_39, s134_40, s134_42, s134_46, s134_46b, s134_47, m134_48, s134_51, s134_52, m134_53, s134_54, s134_55, s134_57, s134_61, s134_61b, s134_62, m134_63, s134_66, s134_67, s134_71, s134_73, s134_73b, s134_76, s134_77, s134_80, m134_81, s134_82, m134_83, s134_86, m134_87, s134_88, s134_88b, s134_91, s134_92, s134_93, s134_97, s134_100, s134_101, s134_102, s134_107, s134_107b, Int.toNat_natCast, Int.toNat_natCast, Nat.reduceAdd, Nat.reduceMul, Int.reduceToNat, Int.reduceAdd, Int.reduceLT, Int.reduceLE, Int.reduceEq, Int.reduceNeg, Int.reduceMul, Int.reduceSub, Nat.reduceSub, reduceIte, ite_true, ite_false, and_true, true_and, and_self, m134_1 h122, m134_43 h125]
  rw [if_neg c1, if_neg c1]
  have c1f := eq_false c1
  by_cases c2 : nx p = 103
  · rw [if_pos c2, if_pos c2]
    rw [c2] at h122
    have h125 := sp125_1 (d := d - 1) (N := N) (L := L) (B := B) (by omega) (hm 3) (hl' 3) (ha' 3) hpn
    simp (disch := omega) only [s134_0, s134_4, s134_32, m134_33, s134_36, s134_37, m134_38, s134_39, s134_40, s134_42, s134_46, s134_46b, s134_47, m134_48, s134_51, s134_52, m134_53, s134_54, s134_55, s134_57, s134_61, s134_61b, s134_62, m134_63, s134_66, s134_67, s134_71, s134_73, s134_73b, s134_76, s134_77, s134_80, m134_81, s134_82, m134_83, s134_86, m134_87, s134_88, s134_88b, s134_91, s134_92, s134_93, s134_97, s134_100, s134_101, s134_102, s134_107, s134_107b, Int.toNat_natCast, Int.toNat_natCast, Nat.reduceAdd, Nat.reduceMul, Int.reduceToNat, Int.reduceAdd, Int.reduceLT, Int.reduceLE, Int.reduceEq, Int.reduceNeg, Int.reduceMul, Int.reduceSub, Nat.reduceSub, reduceIte, ite_true, ite_false, and_true, true_and, and_self, m134_1 h122, m134_58 h125]
  rw [if_neg c2, if_neg c2]
  have c2f := eq_false c2
  by_cases c3 : nx (p + 1) = 105
  · rw [if_pos c3, if_pos c3]
    rw [c3] at h123
    have h125 := sp125_3 (d := d - 1) (N := N) (L := L) (B := B) (by omega) (hm 0) (hl' 0) (ha' 0) hpn
    simp (disch := omega) only [s134_0, s134_4, s134_32, m134_33, s134_36, s134_37, m134_38, s134_39, s134_40, s134_42, s134_46, s134_46b, s134_47, m134_48, s134_51, s134_52, m134_53, s134_54, s134_55, s134_57, s134_61, s134_61b, s134_62, m134_63, s134_66, s134_67, s134_71, s134_73, s134_73b, s134_76, s134_77, s134_80, m134_81, s134_82, m134_83, s134_86, m134_87, s134_88, s134_88b, s134_91, s134_92, s134_93, s134_97, s134_100, s134_101, s134_102, s134_107, s134_107b, Int.toNat_natCast, Int.toNat_natCast, Nat.reduceAdd, Nat.reduceMul, Int.reduceToNat, Int.reduceAdd, Int.reduceLT, Int.reduceLE, Int.reduceEq, Int.reduceNeg, Int.reduceMul, Int.reduceSub, Nat.reduceSub, reduceIte, ite_true, ite_false, and_true, true_and, and_self, m134_1 h122, c1f, c2f, if_false, m134_68 h123, ug_at, m134_94 h125]
  · rw [if_neg c3, if_neg c3]
    have c3f := eq_false c3
    have h125 := sp125_2 (d := d - 1) (N := N) (L := L) (B := B) (by omega) (hm 1) (hl' 1) (ha' 1) hpn
    simp (disch := omega) only [s134_0, s134_4, s134_32, m134_33, s134_36, s134_37, m134_38, s134_39, s134_40, s134_42, s134_46, s134_46b, s134_47, m134_48, s134_51, s134_52, m134_53, s134_54, s134_55, s134_57, s134_61, s134_61b, s134_62, m134_63, s134_66, s134_67, s134_71, s134_73, s134_73b, s134_76, s134_77, s134_80, m134_81, s134_82, m134_83, s134_86, m134_87, s134_88, s134_88b, s134_91, s134_92, s134_93, s134_97, s134_100, s134_101, s134_102, s134_107, s134_107b, Int.toNat_natCast, Int.toNat_natCast, Nat.reduceAdd, Nat.reduceMul, Int.reduceToNat, Int.reduceAdd, Int.reduceLT, Int.reduceLE, Int.reduceEq, Int.reduceNeg, Int.reduceMul, Int.reduceSub, Nat.reduceSub, reduceIte, ite_true, ite_false, and_true, true_and, and_self, m134_1 h122, c1f, c2f, c3f, if_false, m134_68 h123, ug_at, m134_104 h125]
/-- what a clause comes to, raw -/
def mclS (nx : Nat → Int) (p : Nat) : Bool × Nat × Int × Int × List Int :=
  if (nbS nx (hdL nx p) p).1 < 0 then (false, (nbS nx (hdL nx p) p).2, rc0) else if 2 ≤ hdW nx p then (true, (nbS nx (hdL nx p) p).2, hdW nx p, (nbS nx (hdL nx p) p).1, []) else if nx (nbS nx (hdL nx p) p).2 = 32 then
    (if (eitS nx (oneS nx 4) ((nbS nx (hdL nx p) p).2 + 1)).1 = true then (true, (eitS nx (oneS nx 4) ((nbS nx (hdL nx p) p).2 + 1)).2.1, hdW nx p, (nbS nx (hdL nx p) p).1, (eitS nx (oneS nx 4) ((nbS nx (hdL nx p) p).2 + 1)).2.2) else (false, (eitS nx (oneS nx 4) ((nbS nx (hdL nx p) p).2 + 1)).2.1, rc0)) else (false, (nbS nx (hdL nx p) p).2, rc0)
def sumR (rc : List (Int × Int × List Int)) : Int × Int × List (Int × List Int) := (lsR 2 rc 9, lsR 3 rc 0, clR rc)
theorem lsR_app {w : Int} {r : Int × Int × List Int} : ∀ rc : List (Int × Int × List Int), ∀ n, lsR w (rc ++ [r]) n = if r.1 = w then r.2.1 else lsR w rc n := by
  intro rc
  induction rc with
  | nil => intro n; rfl
  | cons a rc ih => intro n; exact ih _
theorem clR_app {r : Int × Int × List Int} : ∀ rc : List (Int × Int × List Int), clR (rc ++ [r]) = clR rc ++ clR [r] := by
  intro rc
  induction rc with
  | nil => rfl
  | cons a rc ih =>
    show clR (a :: (rc ++ [r])) = clR (a :: rc) ++ _
    unfold clR
    by_cases c0 : a.1 = 0
    · rw [if_pos c0, if_pos c0, ih, List.cons_append]; rfl
    · rw [if_neg c0, if_neg c0]
      by_cases c1 : a.1 = 1
      · rw [if_pos c1, if_pos c1, ih, List.cons_append]; rfl
      · rw [if_neg c1, if_neg c1, ih]; rfl
theorem sumR_2 {rc : List (Int × Int × List Int)} {a : Int} {l : List Int} : sumR (rc ++ [(2, a, l)]) = (a, lsR 3 rc 0, clR rc) := by
  unfold sumR
  rw [lsR_app, lsR_app, clR_app, if_pos rfl, if_neg (show ¬ (2 : Int) = 3 by decide)]
  show (_, _, clR rc ++ []) = _
  rw [List.append_nil]
theorem sumR_3 {rc : List (Int × Int × List Int)} {a : Int} {l : List Int} : sumR (rc ++ [(3, a, l)]) = (lsR 2 rc 9, a, clR rc) := by
  unfold sumR
  rw [lsR_app, lsR_app, clR_app, if_pos rfl, if_neg (show ¬ (3 : Int) = 2 by decide)]
  show (_, _, clR rc ++ []) = _
  rw [List.append_nil]
theorem sumR_0 {rc : List (Int × Int × List Int)} {a : Int} {l : List Int} : sumR (rc ++ [(0, a, l)]) = (lsR 2 rc 9, lsR 3 rc 0, clR rc ++ [(a, l)]) := by
  unfold sumR
  rw [lsR_app, lsR_app, clR_app, if_neg (show ¬ (0 : Int) = 2 by decide), if_neg (show ¬ (0 : Int) = 3 by decide)]
  rfl
theorem sumR_1 {rc : List (Int × Int × List Int)} {a : Int} {l : List Int} : sumR (rc ++ [(1, a, l)]) = (lsR 2 rc 9, lsR 3 rc 0, clR rc ++ [(-a, l)]) := by
  unfold sumR
  rw [lsR_app, lsR_app, clR_app, if_neg (show ¬ (1 : Int) = 2 by decide), if_neg (show ¬ (1 : Int) = 3 by decide)]
  rfl
theorem wdL_eq {nx : Nat → Int} {p : Nat} (h1 : ¬ nx (p + 1) = 105) (h2 : ¬ nx (p + 1) = 111) : wrdS nx wdI p = (false, if nx p = 108 then p + 1 else p) ∧ wrdS nx wdO p = (false, if nx p = 108 then p + 1 else p) := by
  unfold wdI wdO
  by_cases c : nx p = 108
  · rw [if_pos c]
    constructor
    all_goals
      unfold wrdS
      rw [if_pos c]
      unfold wrdS
      first | rw [if_neg h1] | rw [if_neg h2]
  · rw [if_neg c]
    constructor
    all_goals
      unfold wrdS
      rw [if_neg c]
theorem mcl_clz {nx : Nat → Int} (p : Nat) (rc : List (Int × Int × List Int)) : (clzS nx (sumR rc) p).1 = (mclS nx p).1 ∧ (clzS nx (sumR rc) p).2.1 = (mclS nx p).2.1 ∧ ((mclS nx p).1 = true → (clzS nx (sumR rc) p).2.2 = sumR (rc ++ [(mclS nx p).2.2])) := by
  unfold mclS clzS hdL hdW
  by_cases c1 : nx p = 116
  · rw [if_pos c1, if_pos c1, if_pos c1]
    by_cases c4 : (nbS nx wdT p).1 < 0
    · rw [if_pos c4]
      exact ⟨decide_eq_false (by omega), rfl, fun e => absurd e Bool.false_ne_true⟩
    · rw [if_neg c4, if_pos (by decide)]
      refine ⟨decide_eq_true (by omega), rfl, fun _ => sumR_2.symm⟩
  rw [if_neg c1, if_neg c1, if_neg c1]
  by_cases c2 : nx p = 103
  · rw [if_pos c2, if_pos c2, if_pos c2]
    by_cases c4 : (nbS nx wdG p).1 < 0
    · rw [if_pos c4]
      exact ⟨decide_eq_false (by omega), rfl, fun e => absurd e Bool.false_ne_true⟩
    · rw [if_neg c4, if_pos (by decide)]
      refine ⟨decide_eq_true (by omega), rfl, fun _ => sumR_3.symm⟩
  rw [if_neg c2, if_neg c2, if_neg c2]
  by_cases c3 : nx (p + 1) = 105
  · rw [if_pos c3, if_pos c3, if_neg (show ¬ nx (p + 1) = 111 by omega)]
    unfold likS
    by_cases c4 : (nbS nx wdI p).1 < 0
    · rw [if_pos c4, if_pos c4]
      exact ⟨rfl, rfl, fun e => absurd e Bool.false_ne_true⟩
    rw [if_neg c4, if_neg c4, if_neg (show ¬ (2 : Int) ≤ 0 by decide)]
    by_cases c5 : nx (nbS nx wdI p).2 = 32
    · rw [if_pos c5, if_pos c5]
      by_cases c6 : (eitS nx (oneS nx 4) ((nbS nx wdI p).2 + 1)).1 = true
      · rw [if_pos c6, if_pos c6]
        refine ⟨rfl, rfl, fun _ => sumR_0.symm⟩
      · rw [if_neg c6, if_neg c6]
        exact ⟨rfl, rfl, fun e => absurd e Bool.false_ne_true⟩
    · rw [if_neg c5, if_neg c5]
      exact ⟨rfl, rfl, fun e => absurd e Bool.false_ne_true⟩
  rw [if_neg c3, if_neg c3]
  by_cases c7 : nx (p + 1) = 111
  · rw [if_pos c7]
    unfold likS
    by_cases c4 : (nbS nx wdO p).1 < 0
    · rw [if_pos c4, if_pos c4]
      exact ⟨rfl, rfl, fun e => absurd e Bool.false_ne_true⟩
    rw [if_neg c4, if_neg c4, if_neg (show ¬ (2 : Int) ≤ 1 by decide)]
    by_cases c5 : nx (nbS nx wdO p).2 = 32
    · rw [if_pos c5, if_pos c5]
      by_cases c6 : (eitS nx (oneS nx 4) ((nbS nx wdO p).2 + 1)).1 = true
      · rw [if_pos c6, if_pos c6]
        refine ⟨rfl, rfl, fun _ => sumR_1.symm⟩
      · rw [if_neg c6, if_neg c6]
        exact ⟨rfl, rfl, fun e => absurd e Bool.false_ne_true⟩
    · rw [if_neg c5, if_neg c5]
      exact ⟨rfl, rfl, fun e => absurd e Bool.false_ne_true⟩
  rw [if_neg c7]
  obtain ⟨eI, eO⟩ := wdL_eq c3 c7
  have nI : nbS nx wdI p = (-1, if nx p = 108 then p + 1 else p) := by
    unfold nbS
    rw [eI, if_neg (by exact Bool.false_ne_true)]
  have nO : nbS nx wdO p = (-1, if nx p = 108 then p + 1 else p) := by
    unfold nbS
    rw [eO, if_neg (by exact Bool.false_ne_true)]
  unfold likS
  have lt : ((-1 : Int), if nx p = 108 then p + 1 else p).1 < 0 := (by decide : (-1 : Int) < 0)
  rw [nI, nO, if_pos lt, if_pos lt]
  exact ⟨rfl, rfl, fun e => absurd e Bool.false_ne_true⟩
