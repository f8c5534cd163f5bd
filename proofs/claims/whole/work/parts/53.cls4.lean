/-! the class's calls: all, dear, odds, mean -/
def bc1 (z : Int) : Int := z - iand (iushr z 1) 1431655765
def bc2 (z : Int) : Int := iand z 858993459 + iand (iushr z 2) 858993459
def bc3 (z : Int) : Int := iand (z + iushr z 4) 252645135
def bc4 (z : Int) : Int := z + iushr z 8
def bc5 (z : Int) : Int := iand (z + iushr z 16) 63
def bcS (z : Int) : Int := bc5 (bc4 (bc3 (bc2 (bc1 z))))
theorem sp207 {d : Nat} {z : Int} {X : q_H} (hd : 1 ≤ d) : Sp d 207 [vI z] X (some (vI (bcS z))) X := by
  refine e207 (by omega) ?_
  simp only [s207_0, s207_1, s207_2, s207_3, s207_4, s207_7, s207_8, s207_9, s207_10, s207_11, s207_14, s207_15, s207_16, s207_17, s207_18, s207_21, s207_22, s207_23, s207_24, s207_25, s207_26, s207_27, s207_28, s207_29, s207_32, s207_33, s207_34, s207_35, s207_36, s207_38, s207_39, s207_40, s207_41, s207_42, s207_43, s207_45, s207_46, s207_47, s207_48, s207_49, s207_51, s207_52, Int.toNat_natCast, Int.toNat_natCast, Nat.reduceAdd, Nat.reduceMul, Int.reduceToNat, Int.reduceAdd, Int.reduceLT, Int.reduceLE, Int.reduceEq, Int.reduceNeg, Int.reduceMul, Int.reduceSub, Nat.reduceSub, reduceIte, ite_true, ite_false, and_true, true_and, and_self, bcS, bc1, bc2, bc3, bc4, bc5]
theorem tbS_r (p : Nat → Bool) : ∀ n : Nat, n ≤ 6 → ∃ m : Nat, tbS p n = (m : Int) ∧ m < 2 ^ n := by
  intro n
  induction n with
  | zero => intro _; exact ⟨0, rfl, by decide⟩
  | succ n ih =>
    intro hn
    obtain ⟨m, e, h⟩ := ih (by omega)
    have h2 : 2 ^ n ≤ 32 := Nat.pow_le_pow_right (n := 2) (by decide) (show n ≤ 5 by omega)
    unfold tbS
    rw [e]
    split
    · have e1 := @ishl_n 1 n (by omega) (by omega)
      rw [show ((1 : Nat) : Int) = 1 from rfl, Nat.one_mul] at e1
      rw [e1, ior_n (by omega) (by omega)]
      exact ⟨_, rfl, Nat.or_lt_two_pow (by rw [Nat.pow_succ]; omega) (by rw [Nat.pow_succ]; omega)⟩
    · have e0 : (0 : Int) = ((0 : Nat) : Int) := rfl
      rw [e0, ior_n (by omega) (by omega), Nat.or_zero]
      exact ⟨m, rfl, by rw [Nat.pow_succ]; omega⟩
theorem bcS_r : ∀ m : Nat, m < 64 → 0 ≤ bcS (m : Int) ∧ bcS (m : Int) ≤ 6 := by decide +kernel
def cntS (t : Int) (H : q_Gi) : Int := bcS (tbS (tunS t H) (H 0 0).toNat)
theorem cntS_r {t : Int} {H : q_Gi} (ho : Hok H) : 0 ≤ cntS t H ∧ cntS t H ≤ 6 := by
  obtain ⟨m, e, h⟩ := tbS_r (tunS t H) (H 0 0).toNat (by have := ho.1; omega)
  unfold cntS
  rw [e]
  refine bcS_r m (Nat.lt_of_lt_of_le h ?_)
  exact Nat.pow_le_pow_right (n := 2) (by decide) (show (H 0 0).toNat ≤ 6 by have := ho.1; omega)
/-- of the next m days (this one is k) that with most -/
def allS (t g : Int) : Nat → Nat → Int → Int → q_Gi → Int
  | 0, _, best, _, _ => best
  | m + 1, k, best, most, H => if most < cntS t H then allS t g m (k + 1) k (cntS t H) (dayS g H) else allS t g m (k + 1) best most (dayS g H)
theorem lp67 {d u N L : Nat} {t g : Int} {cl : List (Int × List Int)} {B : q_Bv} (hd : 6 ≤ d) (hU : upl B N u t g cl) {Q : Option Value → q_H → Prop} : ∀ (m k : Nat) (best most : Int) (G H : q_Gi) (x : Value), k + m = 61 → 0 ≤ most ∧ most ≤ 6 → hv8 G H → Hok H → H 0 1 + (m : Int) ≤ 20000 → G 8 8 = (u : Int) → nL x = true → (∀ G', (∀ a, (a < 8 ∨ 14 < a) → G' a = G a) → Q (some (vI (allS t g m k best most H))) (hp N L B G')) → WP d 67 11 [.ref 0, vI best, vI most, vI k, x] [] (hp N L B G) Q := by
  have hg : 0 ≤ g ∧ g ≤ 99 := hU.2.2.2.2.2.2.2.2.2.2.1
  intro m
  induction m with
  | zero =>
    intro k best most G H x hk hm hv ho hday hu hx hQ
    have hlt : (60 : Int) < (k : Int) := by omega
    have := hQ G (fun _ _ => rfl)
    simp (disch := omega) only [s67_11, s67_12, s67_14, s67_53, s67_54, Int.toNat_natCast, Int.toNat_natCast, Nat.reduceAdd, Nat.reduceMul, Int.reduceToNat, Int.reduceAdd, Int.reduceLT, Int.reduceLE, Int.reduceEq, Int.reduceNeg, Int.reduceMul, Int.reduceSub, Nat.reduceSub, reduceIte, ite_true, ite_false, and_true, true_and, and_self, hlt]
    exact this
  | succ m ih =>
    intro k best most G H x hk hm hv ho hday hu hx hQ
    have hlt : ¬ ((60 : Int) < (k : Int)) := by omega
    obtain ⟨n, hn⟩ : ∃ n : Nat, H 0 0 = (n : Int) := ⟨(H 0 0).toNat, by have := ho.1; omega⟩
    have h10 := sp10_8 (d := d) (L := L) (by omega) hv ho hn hu hU
    have h207 := sp207 (d := d) (z := tbS (tunS t H) n) (X := hp N L B G) (by omega)
    have ec : bcS (tbS (tunS t H) n) = cntS t H := by unfold cntS; rw [hn]; rfl
    rw [ec] at h207
    have rc := @cntS_r t H ho
    obtain ⟨G1, h14, w14, f14⟩ := sp14_8 (d := d) (L := L) (by omega) hv ho hu hU
    have e1 : dayS g H 0 1 = H 0 1 + 1 := rfl
    have f1 : ∀ {best most : Int}, 0 ≤ most ∧ most ≤ 6 → allS t g (m + 1) k best most H = (if most < cntS t H then allS t g m (k + 1) k (cntS t H) (dayS g H) else allS t g m (k + 1) best most (dayS g H)) := fun _ => rfl
    rw [s67_11]
    simp (disch := first | omega | assumption) only [s67_12, s67_14, s67_17, m67_18, s67_27, s67_29, s67_31, s67_32, s67_35, Int.toNat_natCast, Int.toNat_natCast, Nat.reduceAdd, Nat.reduceMul, Int.reduceToNat, Int.reduceAdd, Int.reduceLT, Int.reduceLE, Int.reduceEq, Int.reduceNeg, Int.reduceMul, Int.reduceSub, Nat.reduceSub, reduceIte, ite_true, ite_false, and_true, true_and, and_self, hlt, m67_21 h10, c67_24 h207]
    by_cases c : most < cntS t H
    · rw [if_pos c]
      have := ih (k + 1) k (cntS t H) G1 (dayS g H) (vI (cntS t H)) (by omega) rc w14 (dayS_ok hg ho (by omega)) (by omega) (by rw [f14.2, hu]) rfl (fun G' hG' => by
        have := hQ G' (fun a ha => by rw [hG' a ha, f14.1 a ha])
        rw [f1 hm, if_pos c] at this
        exact this)
      rw [show ((k + 1 : Nat) : Int) = (k : Int) + 1 from rfl] at this
      simp (disch := first | omega | assumption) only [s67_35, s67_37, s67_38, s67_39, s67_40, m67_41, s67_47, s67_50, Int.toNat_natCast, Int.toNat_natCast, Nat.reduceAdd, Nat.reduceMul, Int.reduceToNat, Int.reduceAdd, Int.reduceLT, Int.reduceLE, Int.reduceEq, Int.reduceNeg, Int.reduceMul, Int.reduceSub, Nat.reduceSub, reduceIte, ite_true, ite_false, and_true, true_and, and_self, m67_44 h14]
      exact this
    · rw [if_neg c]
      have := ih (k + 1) best most G1 (dayS g H) (vI (cntS t H)) (by omega) hm w14 (dayS_ok hg ho (by omega)) (by omega) (by rw [f14.2, hu]) rfl (fun G' hG' => by
        have := hQ G' (fun a ha => by rw [hG' a ha, f14.1 a ha])
        rw [f1 hm, if_neg c] at this
        exact this)
      rw [show ((k + 1 : Nat) : Int) = (k : Int) + 1 from rfl] at this
      simp (disch := first | omega | assumption) only [s67_40, m67_41, s67_47, s67_50, Int.toNat_natCast, Int.toNat_natCast, Nat.reduceAdd, Nat.reduceMul, Int.reduceToNat, Int.reduceAdd, Int.reduceLT, Int.reduceLE, Int.reduceEq, Int.reduceNeg, Int.reduceMul, Int.reduceSub, Nat.reduceSub, reduceIte, ite_true, ite_false, and_true, true_and, and_self, m67_44 h14]
      exact this
theorem sp67 {d u N L : Nat} {t g : Int} {cl : List (Int × List Int)} {B : q_Bv} {G H : q_Gi} (hd : 8 ≤ d) (hv : hv1 G H) (ho : Hok H) (hday : H 0 1 ≤ 9999) (hu : G 1 8 = (u : Int)) (hU : upl B N u t g cl) : ∃ G', Sp d 67 [.ref 0] (hp N L B G) (some (vI (allS t g 61 0 0 0 H))) (hp N L B G') ∧ qf G G' := by
  obtain ⟨G1, h100, w100, o100, u100, f100⟩ := sp100 (d := d - 1) (L := L) (n := 0) (by omega) (by omega) hv ho (by omega) hu hU
  have h100 : Sp (d - 1) 100 [.ref 0, vI 0] (hp N L B G) none (hp N L B G1) := h100
  obtain ⟨r, X', hS, G', hr, hX, hq⟩ := E67 (d := d) (X := hp N L B G) (Q := fun r X => ∃ G', r = some (vI (allS t g 61 0 0 0 H)) ∧ X = hp N L B G' ∧ qf G G') (by omega) (by
    have lp := lp67 (d := d - 1) (u := u) (N := N) (L := L) (t := t) (g := g) (cl := cl) (B := B) (by omega) hU (Q := fun r X => ∃ G', r = some (vI (allS t g 61 0 0 0 H)) ∧ X = hp N L B G' ∧ qf G G') 61 0 0 0 G1 H .null (by omega) (by omega) w100 ho (by omega) u100 rfl (fun G' hG' => ⟨G', rfl, rfl, fun a ha => by rw [hG' a (by omega), f100 a (by omega)]⟩)
    simp (disch := omega) only [s67_0, s67_1, s67_2, s67_3, s67_4, s67_5, s67_9, s67_10, Int.toNat_natCast, Int.toNat_natCast, Nat.reduceAdd, Nat.reduceMul, Int.reduceToNat, Int.reduceAdd, Int.reduceLT, Int.reduceLE, Int.reduceEq, Int.reduceNeg, Int.reduceMul, Int.reduceSub, Nat.reduceSub, reduceIte, ite_true, ite_false, and_true, true_and, and_self, m67_6 h100]
    exact lp)
  exact ⟨G', by rw [hr, hX] at hS; exact hS, hq⟩
/-- the food that fills most: of the next m foods (this one is k) -/
def dearS (cl : List (Int × List Int)) (H : q_Gi) (b : Nat) : Nat → Nat → Int → Int → Int
  | 0, _, best, _ => best
  | m + 1, k, best, most => if most < fillS cl H b k (H 3 b) then dearS cl H b m (k + 1) k (fillS cl H b k (H 3 b)) else dearS cl H b m (k + 1) best most
theorem lp70 {d u N L b : Nat} {t g : Int} {cl : List (Int × List Int)} {B : q_Bv} {H : q_Gi} (hd : 6 ≤ d) (hU : upl B N u t g cl) (hb : b < 6) (ho : Hok H) {Q : Option Value → q_H → Prop} : ∀ (m k : Nat) (best most : Int) (G : q_Gi) (x : Value), k + m = 4 → -1 ≤ most ∧ most ≤ 3000 → hv1 G H → G 1 8 = (u : Int) → (∀ G', (∀ a, a ≠ 7 → G' a = G a) → Q (some (vI (dearS cl H b m k best most))) (hp N L B G')) → WP d 70 17 [.ref 0, vI b, vI best, vI most, vI k, x] [] (hp N L B G) Q := by
  intro m
  induction m with
  | zero =>
    intro k best most G x hk hm hv hu hQ
    have hlt : ¬ ((k : Int) < 4) := by omega
    have := hQ G (fun _ _ => rfl)
    simp (disch := omega) only [s70_17, s70_19, s70_20, s70_62, s70_63, Int.toNat_natCast, Int.toNat_natCast, Nat.reduceAdd, Nat.reduceMul, Int.reduceToNat, Int.reduceAdd, Int.reduceLT, Int.reduceLE, Int.reduceEq, Int.reduceNeg, Int.reduceMul, Int.reduceSub, Nat.reduceSub, reduceIte, ite_true, ite_false, and_true, true_and, and_self, hlt]
    exact this
  | succ m ih =>
    intro k best most G x hk hm hv hu hQ
    have hlt : ((k : Int) < 4) := by omega
    have hok' := hok1_v hv ho
    have h3 := ho.2.2.2.1 b hb
    obtain ⟨G1, h11, f11⟩ := sp11_1 (d := d) (L := L) (b := b) (f := k) (fd := H 3 b) (by omega) hok' hu hU hb (by omega) (by omega)
    rw [hv.2.2.2.1 b hb, hv.2.2.2.2.1 b hb, hv.2.1] at h11
    change Sp d 11 _ _ (some (vI (fillS cl H b k (H 3 b)))) _ at h11
    have rf := @fillsS_r cl B N u t g (H 1 b) (H 2 b) b k (H 3 b) (H 0 1) hU (by omega) (ho.2.2.1 b hb)
    have rf2 : 0 ≤ fillS cl H b k (H 3 b) ∧ fillS cl H b k (H 3 b) ≤ 3000 := rf
    have hv' : hv1 G1 H := hv1_f hv (fun a h1 h2 => f11 a (by omega))
    have hu' : G1 1 8 = (u : Int) := by rw [f11 1 (by omega)]; exact hu
    have f1 : dearS cl H b (m + 1) k best most = (if most < fillS cl H b k (H 3 b) then dearS cl H b m (k + 1) k (fillS cl H b k (H 3 b)) else dearS cl H b m (k + 1) best most) := rfl
    rw [s70_17]
    simp (disch := first | omega | assumption) only [s70_19, s70_20, s70_23, m70_24, s70_27, s70_28, s70_30, m70_31, m70_34, s70_37, m70_38, s70_42, s70_44, s70_46, s70_47, s70_50, Int.toNat_natCast, Int.toNat_natCast, Nat.reduceAdd, Nat.reduceMul, Int.reduceToNat, Int.reduceAdd, Int.reduceLT, Int.reduceLE, Int.reduceEq, Int.reduceNeg, Int.reduceMul, Int.reduceSub, Nat.reduceSub, reduceIte, ite_true, ite_false, and_true, true_and, and_self, hlt, hv.2.2.2.2.2.1 b hb, m70_39 h11]
    by_cases c : most < fillS cl H b k (H 3 b)
    · rw [if_pos c]
      have := ih (k + 1) k (fillS cl H b k (H 3 b)) G1 (vI (fillS cl H b k (H 3 b))) (by omega) (by omega) hv' hu' (fun G' hG' => by
        have := hQ G' (fun a ha => by rw [hG' a ha, f11 a ha])
        rw [f1, if_pos c] at this
        exact this)
      rw [show ((k + 1 : Nat) : Int) = (k : Int) + 1 from rfl] at this
      simp (disch := first | omega | assumption) only [s70_50, s70_52, s70_53, s70_55, s70_56, s70_59, Int.toNat_natCast, Int.toNat_natCast, Nat.reduceAdd, Nat.reduceMul, Int.reduceToNat, Int.reduceAdd, Int.reduceLT, Int.reduceLE, Int.reduceEq, Int.reduceNeg, Int.reduceMul, Int.reduceSub, Nat.reduceSub, reduceIte, ite_true, ite_false, and_true, true_and, and_self]
      exact this
    · rw [if_neg c]
      have := ih (k + 1) best most G1 (vI (fillS cl H b k (H 3 b))) (by omega) (by omega) hv' hu' (fun G' hG' => by
        have := hQ G' (fun a ha => by rw [hG' a ha, f11 a ha])
        rw [f1, if_neg c] at this
        exact this)
      rw [show ((k + 1 : Nat) : Int) = (k : Int) + 1 from rfl] at this
      simp (disch := first | omega | assumption) only [s70_56, s70_59, Int.toNat_natCast, Int.toNat_natCast, Nat.reduceAdd, Nat.reduceMul, Int.reduceToNat, Int.reduceAdd, Int.reduceLT, Int.reduceLE, Int.reduceEq, Int.reduceNeg, Int.reduceMul, Int.reduceSub, Nat.reduceSub, reduceIte, ite_true, ite_false, and_true, true_and, and_self]
      exact this
def r70 (cl : List (Int × List Int)) (H : q_Gi) (b : Int) : Int := if 0 ≤ b ∧ b < H 0 0 then dearS cl H b.toNat 4 0 0 (-1) else -1
theorem sp70 {d u N L : Nat} {t g b : Int} {cl : List (Int × List Int)} {B : q_Bv} {G H : q_Gi} (hd : 8 ≤ d) (hv : hv1 G H) (ho : Hok H) (hu : G 1 8 = (u : Int)) (hU : upl B N u t g cl) (hb : -2147483648 ≤ b ∧ b ≤ 2147483647) : ∃ G', Sp d 70 [.ref 0, vI b] (hp N L B G) (some (vI (r70 cl H b))) (hp N L B G') ∧ qf G G' := by
  have hv0 := hv.1
  have hc := ho.1
  have h94 := sp94 (d := d - 1) (N := N) (L := L) (B := B) (G := G) (by omega) hb (by rw [hv0]; exact ho.1)
  rw [hv0] at h94
  by_cases c1 : 0 ≤ b ∧ b < H 0 0
  · obtain ⟨k, rfl⟩ : ∃ k : Nat, b = (k : Int) := ⟨b.toNat, by omega⟩
    obtain ⟨r, X', hS, G', hr, hX, hq⟩ := E70 (d := d) (X := hp N L B G) (z1 := (k : Int)) (Q := fun r X => ∃ G', r = some (vI (r70 cl H k)) ∧ X = hp N L B G' ∧ qf G G') (by omega) (by
      have lp := lp70 (d := d - 1) (u := u) (N := N) (L := L) (t := t) (g := g) (cl := cl) (B := B) (b := k) (by omega) hU (by omega) ho (Q := fun r X => ∃ G', r = some (vI (r70 cl H k)) ∧ X = hp N L B G' ∧ qf G G') 4 0 0 (-1) G .null (by omega) (by omega) hv hu (fun G' hG' => ⟨G', by unfold r70; rw [if_pos c1]; rfl, rfl, fun a ha => hG' a (by omega)⟩)
      simp (disch := omega) only [s70_0, s70_1, s70_5, s70_5b, s70_8, s70_9, s70_10, s70_11, s70_12, s70_13, s70_14, s70_15, Int.toNat_natCast, Int.toNat_natCast, Nat.reduceAdd, Nat.reduceMul, Int.reduceToNat, Int.reduceAdd, Int.reduceLT, Int.reduceLE, Int.reduceEq, Int.reduceNeg, Int.reduceMul, Int.reduceSub, Nat.reduceSub, reduceIte, ite_true, ite_false, and_true, true_and, and_self, m70_2 h94, c1]
      exact lp)
    exact ⟨G', by rw [hr, hX] at hS; exact hS, hq⟩
  · refine ⟨G, ?_, qf_r G⟩
    refine e70 (by omega) ?_
    simp (disch := omega) only [s70_0, s70_1, s70_5, s70_5b, s70_8, s70_9, Int.toNat_natCast, Int.toNat_natCast, Nat.reduceAdd, Nat.reduceMul, Int.reduceToNat, Int.reduceAdd, Int.reduceLT, Int.reduceLE, Int.reduceEq, Int.reduceNeg, Int.reduceMul, Int.reduceSub, Nat.reduceSub, reduceIte, ite_true, ite_false, and_true, true_and, and_self, m70_2 h94, c1, r70]
