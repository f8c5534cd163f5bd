/-! days, bits, strokes, eating of a hill -/
theorem tbS_s (p : Nat → Bool) (n : Nat) : tbS p (n + 1) = ior (tbS p n) (if p n = true then ishl 1 n else 0) := rfl
theorem lp15_1 {d u N L n : Nat} {t g : Int} {cl : List (Int × List Int)} {B : q_Bv} {Q : Option Value → q_H → Prop} (hd : 2 ≤ d) (hU : upl B N u t g cl) : ∀ (k i : Nat) (G H : q_Gi), i + k = n → n ≤ 100 → hv1 G H → Hok H → H 0 1 + (k : Int) ≤ 20000 → G 1 8 = (u : Int) → (∀ G', hv1 G' (daysS g k H) → Hok (daysS g k H) → fr1 G G' → Q none (hp N L B G')) → WP d 15 2 [.ref 1, vI n, vI i] [] (hp N L B G) Q := by
  intro k
  induction k with
  | zero =>
    intro i G H hi hn hv ho hda hu hQ
    have hlt : ¬ ((i : Int) < (n : Int)) := by omega
    have := hQ G hv ho (fr1_r G)
    simp (disch := omega) only [s15_0, s15_1, s15_2, s15_3, s15_4, s15_7, s15_11, s15_14, s15_17, Int.toNat_natCast, Int.toNat_natCast, Nat.reduceAdd, Nat.reduceMul, Int.reduceToNat, Int.reduceAdd, Int.reduceLT, Int.reduceLE, Int.reduceEq, Int.reduceNeg, Int.reduceMul, Int.reduceSub, Nat.reduceSub, reduceIte, ite_true, ite_false, and_true, true_and, and_self, hlt]
    exact this
  | succ k ih =>
    intro i G H hi hn hv ho hda hu hQ
    have hlt : (i : Int) < (n : Int) := by omega
    obtain ⟨G1, h14, hv1, hf1⟩ := sp14_1 (d := d) (L := L) hd hv ho hu hU
    have hg : 0 ≤ g ∧ g ≤ 99 := hU.2.2.2.2.2.2.2.2.2.2.1
    have := ih (i + 1) G1 (dayS g H) (by omega) hn hv1 (dayS_ok hg ho (by omega)) (by
      have e : dayS g H 0 1 = H 0 1 + 1 := rfl
      omega) (by rw [hf1.2, hu]) (fun G' a b c => hQ G' a b (fr1_t hf1 c))
    rw [show ((i + 1 : Nat) : Int) = (i : Int) + 1 from rfl] at this
    rw [s15_2]
    simp (disch := omega) only [s15_3, s15_4, s15_7, s15_11, s15_14, Int.toNat_natCast, Int.toNat_natCast, Nat.reduceAdd, Nat.reduceMul, Int.reduceToNat, Int.reduceAdd, Int.reduceLT, Int.reduceLE, Int.reduceEq, Int.reduceNeg, Int.reduceMul, Int.reduceSub, Nat.reduceSub, reduceIte, ite_true, ite_false, and_true, true_and, and_self, hlt, m15_8_1 h14]
    exact this
theorem sp15_1 {d u N L n : Nat} {t g : Int} {cl : List (Int × List Int)} {B : q_Bv} {G H : q_Gi} (hd : 3 ≤ d) (hn : n ≤ 100) (hv : hv1 G H) (ho : Hok H) (hda : H 0 1 + (n : Int) ≤ 20000) (hu : G 1 8 = (u : Int)) (hU : upl B N u t g cl) : ∃ G', Sp d 15 [.ref 1, vI n] (hp N L B G) none (hp N L B G') ∧ hv1 G' (daysS g n H) ∧ Hok (daysS g n H) ∧ fr1 G G' := by
  obtain ⟨r, X', hS, G', hr, hX, hq⟩ := E15 (d := d) (X := hp N L B G) (a1 := 1) (z2 := (n : Int)) (Q := fun r X => ∃ G', r = none ∧ X = hp N L B G' ∧ hv1 G' (daysS g n H) ∧ Hok (daysS g n H) ∧ fr1 G G') (by omega) (by
    simp only [s15_0, s15_1, Int.toNat_natCast, Int.toNat_natCast, Nat.reduceAdd, Nat.reduceMul, Int.reduceToNat, Int.reduceAdd, Int.reduceLT, Int.reduceLE, Int.reduceEq, Int.reduceNeg, Int.reduceMul, Int.reduceSub, Nat.reduceSub, reduceIte, ite_true, ite_false, and_true, true_and, and_self]
    exact lp15_1 (by omega) hU n 0 G H (by omega) hn hv ho hda hu (fun G' a b c => ⟨G', rfl, rfl, a, b, c⟩))
  exact ⟨G', by rw [hr, hX] at hS; exact hS, hq⟩
theorem lp10_1 {d u N L n : Nat} {t g : Int} {cl : List (Int × List Int)} {B : q_Bv} {G H : q_Gi} (hd : 3 ≤ d) (hv : hv1 G H) (ho : Hok H) (hn : H 0 0 = (n : Int)) (hu : G 1 8 = (u : Int)) (hU : upl B N u t g cl) : ∀ (k i : Nat), i + k = n → WP d 10 4 [.ref 1, vI (tbS (tunS t H) i), vI i] [] (hp N L B G) (fun r1 X1 => r1 = some (vI (tbS (tunS t H) n)) ∧ X1 = hp N L B G) := by
  have hok' := hok1_v hv ho
  obtain ⟨v0, v6, v7, v1, v2, v3, v4, v5⟩ := hv
  have hn6 : n ≤ 6 := by have := ho.1; omega
  intro k
  induction k with
  | zero =>
    intro i hi
    have hin : i = n := by omega
    subst hin
    have hlt : ¬ ((i : Int) < (i : Int)) := by omega
    simp (disch := omega) only [s10_4, s10_5, m10_6_1, m10_6_8, s10_9, s10_42, s10_43, Int.toNat_natCast, Int.toNat_natCast, Nat.reduceAdd, Nat.reduceMul, Int.reduceToNat, Int.reduceAdd, Int.reduceLT, Int.reduceLE, Int.reduceEq, Int.reduceNeg, Int.reduceMul, Int.reduceSub, Nat.reduceSub, reduceIte, ite_true, ite_false, and_true, true_and, and_self, v0, hn, hlt]
  | succ k ih =>
    intro i hi
    have hi6 : i < 6 := by omega
    have hlt : (i : Int) < (n : Int) := by omega
    have h3 := ho.2.2.2.1 i hi6
    have h9 := sp9_1 (d := d) (L := L) (f := H 3 i) hd hok' hu hU hi6 (by omega)
    rw [v1 i hi6, v2 i hi6] at h9
    change Sp d 9 _ _ (some (vI (bI (tunS t H i = true)))) _ at h9
    have := ih (i + 1) (by omega)
    rw [show ((i + 1 : Nat) : Int) = (i : Int) + 1 from rfl] at this
    rw [tbS_s] at this
    rw [s10_4]
    simp (disch := omega) only [s10_5, m10_6_1, m10_6_8, s10_9, s10_12, s10_13, s10_14, s10_15, m10_16_1, m10_16_8, s10_19, m10_20_11, m10_20_4, s10_24, s10_24b, s10_27, s10_28, s10_29, s10_30, s10_33, s10_34, s10_35, s10_36, s10_39, Int.toNat_natCast, Int.toNat_natCast, Nat.reduceAdd, Nat.reduceMul, Int.reduceToNat, Int.reduceAdd, Int.reduceLT, Int.reduceLE, Int.reduceEq, Int.reduceNeg, Int.reduceMul, Int.reduceSub, Nat.reduceSub, reduceIte, ite_true, ite_false, and_true, true_and, and_self, v0, hn, hlt, v3 i hi6, m10_21_1 h9]
    split <;> rename_i hc
    · rw [if_pos hc] at this; exact this
    · rw [if_neg hc] at this; exact this
theorem sp10_1 {d u N L n : Nat} {t g : Int} {cl : List (Int × List Int)} {B : q_Bv} {G H : q_Gi} (hd : 4 ≤ d) (hv : hv1 G H) (ho : Hok H) (hn : H 0 0 = (n : Int)) (hu : G 1 8 = (u : Int)) (hU : upl B N u t g cl) : Sp d 10 [.ref 1] (hp N L B G) (some (vI (tbS (tunS t H) n))) (hp N L B G) := by
  refine e10 (by omega) ?_
  simp only [s10_0, s10_1, s10_2, s10_3, Int.toNat_natCast, Int.toNat_natCast, Nat.reduceAdd, Nat.reduceMul, Int.reduceToNat, Int.reduceAdd, Int.reduceLT, Int.reduceLE, Int.reduceEq, Int.reduceNeg, Int.reduceMul, Int.reduceSub, Nat.reduceSub, reduceIte, ite_true, ite_false, and_true, true_and, and_self]
  exact lp10_1 (by omega) hv ho hn hu hU n 0 (by omega)
theorem lp16_1 {d N L n : Nat} {B : q_Bv} {G H : q_Gi} {s : Int} {z : Int} {Q : Option Value → q_H → Prop} (hs : s = 0 ∨ s = 1) (hv : hv1 G H) (ho : Hok H) (hn : H 0 0 = (n : Int)) (hQ : ∀ G', (∀ a, a ≠ 4 → G' a = G a) → (∀ j : Nat, j < 6 → G' 4 j = if (j : Int) < (n : Int) then max 0 (H 3 j - 1) else H 3 j) → Q (some (vI s)) (hp N L B G')) : ∀ (k i : Nat) (G' : q_Gi), i + k = n → (∀ a, a ≠ 4 → G' a = G a) → (∀ j : Nat, j < 6 → G' 4 j = if j < i then max 0 (H 3 j - 1) else H 3 j) → WP d 16 14 [.ref 1, vI z, vI s, vI i] [] (hp N L B G') Q := by
  intro k
  obtain ⟨v0, v6, v7, v1, v2, v3, v4, v5⟩ := hv
  have hn6 : n ≤ 6 := by have := ho.1; omega
  induction k with
  | zero =>
    intro i G' hi hf hg
    have hi2 : i = n := by omega
    subst hi2
    have h0 : G' 1 0 = (i : Int) := by rw [hf 1 (by omega), v0, hn]
    have hlt : ¬ ((i : Int) < (i : Int)) := by omega
    have := hQ G' hf (fun j hj => by rw [hg j hj]; simp only [Int.ofNat_lt])
    simp (disch := omega) only [s16_14, s16_15, m16_16_1, m16_16_8, s16_19, s16_46, s16_47, s16_47b, Int.toNat_natCast, Int.toNat_natCast, Nat.reduceAdd, Nat.reduceMul, Int.reduceToNat, Int.reduceAdd, Int.reduceLT, Int.reduceLE, Int.reduceEq, Int.reduceNeg, Int.reduceMul, Int.reduceSub, Nat.reduceSub, reduceIte, ite_true, ite_false, and_true, true_and, and_self, h0, hlt]
    exact this
  | succ k ih =>
    intro i G' hi hf hg
    have hi6 : i < 6 := by omega
    have h0 : G' 1 0 = (n : Int) := by rw [hf 1 (by omega), v0, hn]
    have hlt : (i : Int) < (n : Int) := by omega
    have hgi := hg i hi6
    rw [if_neg (by omega)] at hgi
    have hfi := ho.2.2.2.1 i hi6
    have := ih (i + 1) (ug G' 4 i (max 0 (H 3 i - 1))) (by omega) (fun a ha => by rw [ug_ne ha]; exact hf a ha) (fun j hj => by
      rw [ug_b]
      by_cases hji : j = i
      · subst hji
        simp
      · rw [if_neg (by omega), hg j hj]
        by_cases hj2 : j < i
        · rw [if_pos hj2, if_pos (by omega)]
        · rw [if_neg hj2, if_neg (by omega)])
    rw [show ((i + 1 : Nat) : Int) = (i : Int) + 1 from rfl] at this
    rw [s16_14]
    simp (disch := first | omega | assumption) only [s16_15, m16_16_1, m16_16_8, s16_19, s16_22, m16_23_1, m16_23_8, s16_26, s16_27, s16_28, m16_29_1, m16_29_8, s16_32, m16_33_11, m16_33_4, s16_34, s16_35, s16_36, m16_39_11, m16_39_4, s16_40, s16_43, Int.toNat_natCast, Int.toNat_natCast, Nat.reduceAdd, Nat.reduceMul, Int.reduceToNat, Int.reduceAdd, Int.reduceLT, Int.reduceLE, Int.reduceEq, Int.reduceNeg, Int.reduceMul, Int.reduceSub, Nat.reduceSub, reduceIte, ite_true, ite_false, and_true, true_and, and_self, h0, hlt, hgi]
    exact this
theorem sp16_1 {d u N L b : Nat} {t g : Int} {cl : List (Int × List Int)} {B : q_Bv} {G H : q_Gi} (hd : 4 ≤ d) (hb : b < 6) (hv : hv1 G H) (ho : Hok H) (hu : G 1 8 = (u : Int)) (hU : upl B N u t g cl) : ∃ G', Sp d 16 [.ref 1, vI b] (hp N L B G) (some (vI (bI (tunS t H b = true)))) (hp N L B G') ∧ hv1 G' (strokeS H) ∧ fr1 G G' := by
  have hok' := hok1_v hv ho
  have hv0 := hv
  obtain ⟨v0, v6, v7, v1, v2, v3, v4, v5⟩ := hv
  obtain ⟨n, hn⟩ : ∃ n : Nat, H 0 0 = (n : Int) := ⟨(H 0 0).toNat, by have := ho.1; omega⟩
  have h3 := ho.2.2.2.1 b hb
  have h9 := sp9_1 (d := d - 1) (L := L) (f := H 3 b) (by omega) hok' hu hU hb (by omega)
  rw [v1 b hb, v2 b hb] at h9
  obtain ⟨r, X', hS, G', hr, hX, hq⟩ := E16 (d := d) (X := hp N L B G) (a1 := 1) (z2 := (b : Int)) (Q := fun r X => ∃ G', r = some (vI (bI (tunS t H b = true))) ∧ X = hp N L B G' ∧ hv1 G' (strokeS H) ∧ fr1 G G') (by omega) (by
    simp (disch := omega) only [s16_0, s16_1, s16_2, m16_3_1, m16_3_8, s16_6, m16_7_11, m16_7_4, s16_11, s16_12, s16_13, Int.toNat_natCast, Int.toNat_natCast, Nat.reduceAdd, Nat.reduceMul, Int.reduceToNat, Int.reduceAdd, Int.reduceLT, Int.reduceLE, Int.reduceEq, Int.reduceNeg, Int.reduceMul, Int.reduceSub, Nat.reduceSub, reduceIte, ite_true, ite_false, and_true, true_and, and_self, v3 b hb, m16_8_1 h9]
    refine lp16_1 (bI_01 _) hv0 ho hn (fun G' hf hg => ?_) n 0 G (by omega) (fun _ _ => rfl) (fun j hj => by rw [if_neg (by omega)]; exact v3 j hj)
    refine ⟨G', rfl, rfl, ⟨?_, ?_, ?_, ?_, ?_, ?_, ?_, ?_⟩, ?_, ?_⟩
    · rw [hf 1 (by omega), v0]; rfl
    · rw [hf 1 (by omega), v6]; rfl
    · rw [hf 1 (by omega), v7]; rfl
    · intro k hk; rw [hf 2 (by omega), v1 k hk]; rfl
    · intro k hk; rw [hf 3 (by omega), v2 k hk]; rfl
    · intro k hk
      rw [hg k hk]
      show _ = (if (k : Int) < H 0 0 then max 0 (H 3 k - 1) else H 3 k)
      rw [hn]
    · intro k hk; rw [hf 5 (by omega), v4 k hk]; rfl
    · intro k hk; rw [hf 6 (by omega), v5 k hk]; rfl
    · intro a ha; exact hf a (by omega)
    · rw [hf 1 (by omega)])
  exact ⟨G', by rw [hr, hX] at hS; exact hS, hq⟩
theorem sp13_1 {d u N L b e : Nat} {t g : Int} {cl : List (Int × List Int)} {B : q_Bv} {G H : q_Gi} (hd : 6 ≤ d) (hb : b < 6) (he : e < 4) (hv : hv1 G H) (ho : Hok H) (hu : G 1 8 = (u : Int)) (hU : upl B N u t g cl) : ∃ G', Sp d 13 [.ref 1, vI b, vI e] (hp N L B G) none (hp N L B G') ∧ hv1 G' (eatS cl b e H) ∧ fr1 G G' := by
  have hok' := hok1_v hv ho
  obtain ⟨v0, v6, v7, v1, v2, v3, v4, v5⟩ := hv
  have h3 := ho.2.2.2.1 b hb
  have h7 := ho.2.2.2.2.2.2.2
  have h5 := ho.2.2.2.2.2.1 e he
  obtain ⟨G1, h12, hf⟩ := sp12_1 (d := d - 1) (L := L) (fd := H 3 b) (by omega) hok' hu hU hb he (by omega)
  rw [v1 b hb, v2 b hb, v6] at h12
  have w5 : G1 6 e = H 5 e := by rw [hf 6 (by omega), v5 e he]
  have w7 : G1 1 7 = H 0 2 := by rw [hf 1 (by omega), v7]
  obtain ⟨r, X', hS, G', hr, hX, hq⟩ := E13 (d := d) (X := hp N L B G) (a1 := 1) (z2 := (b : Int)) (z3 := (e : Int)) (Q := fun r X => ∃ G', r = none ∧ X = hp N L B G' ∧ hv1 G' (eatS cl b e H) ∧ fr1 G G') (by omega) (by
    simp (disch := omega) only [s13_0, m13_1_1, m13_1_8, s13_4, s13_5, s13_6, s13_7, s13_8, m13_9_1, m13_9_8, s13_12, m13_13_11, m13_13_4, m13_17_11, m13_17_4, s13_18, m13_19_1, m13_19_8, s13_22, s13_23, m13_24_13, m13_24_6, s13_25, s13_26, m13_27_13, m13_27_6, s13_28, s13_29, m13_30_1, m13_30_8, s13_33, s13_34, m13_35_1, m13_35_8, s13_38, Int.toNat_natCast, Int.toNat_natCast, Nat.reduceAdd, Nat.reduceMul, Int.reduceToNat, Int.reduceAdd, Int.reduceLT, Int.reduceLE, Int.reduceEq, Int.reduceNeg, Int.reduceMul, Int.reduceSub, Nat.reduceSub, reduceIte, ite_true, ite_false, and_true, true_and, and_self, v3 b hb, m13_14_1 h12, ug_ne, w5, w7]
    refine ⟨_, rfl, ⟨?_, ?_, ?_, ?_, ?_, ?_, ?_, ?_⟩, ?_, ?_⟩
    · simp (disch := omega) only [ug_ne, ug_k, hf, v0]; rfl
    · simp (disch := omega) only [ug_ne, ug_k, hf, v6]; rfl
    · simp only [ug_at]; rfl
    · intro k hk; simp (disch := omega) only [ug_ne, hf, v1 k hk]; rfl
    · intro k hk; simp (disch := omega) only [ug_ne, hf, v2 k hk]; rfl
    · intro k hk
      simp (disch := omega) only [ug_ne]
      by_cases hkb : k = b
      · subst hkb
        rw [ug_at]
        simp [eatS]; rfl
      · rw [ug_k hkb, hf 4 (by omega), v3 k hk]
        simp [eatS, hkb]
    · intro k hk; simp (disch := omega) only [ug_ne, hf, v4 k hk]; rfl
    · intro k hk
      simp (disch := omega) only [ug_ne]
      by_cases hkb : k = e
      · subst hkb
        rw [ug_at]
        simp [eatS]
      · rw [ug_k hkb, ug_ne (by omega), hf 6 (by omega), v5 k hk]
        simp [eatS, hkb]
    · intro a ha; simp (disch := omega) only [ug_ne, hf]
    · simp (disch := omega) only [ug_ne, ug_k, hf])
  exact ⟨G', by rw [hr, hX] at hS; exact hS, hq⟩
theorem lp15_8 {d u N L n : Nat} {t g : Int} {cl : List (Int × List Int)} {B : q_Bv} {Q : Option Value → q_H → Prop} (hd : 2 ≤ d) (hU : upl B N u t g cl) : ∀ (k i : Nat) (G H : q_Gi), i + k = n → n ≤ 100 → hv8 G H → Hok H → H 0 1 + (k : Int) ≤ 20000 → G 8 8 = (u : Int) → (∀ G', hv8 G' (daysS g k H) → Hok (daysS g k H) → fr8 G G' → Q none (hp N L B G')) → WP d 15 2 [.ref 8, vI n, vI i] [] (hp N L B G) Q := by
  intro k
  induction k with
  | zero =>
    intro i G H hi hn hv ho hda hu hQ
    have hlt : ¬ ((i : Int) < (n : Int)) := by omega
    have := hQ G hv ho (fr8_r G)
    simp (disch := omega) only [s15_0, s15_1, s15_2, s15_3, s15_4, s15_7, s15_11, s15_14, s15_17, Int.toNat_natCast, Int.toNat_natCast, Nat.reduceAdd, Nat.reduceMul, Int.reduceToNat, Int.reduceAdd, Int.reduceLT, Int.reduceLE, Int.reduceEq, Int.reduceNeg, Int.reduceMul, Int.reduceSub, Nat.reduceSub, reduceIte, ite_true, ite_false, and_true, true_and, and_self, hlt]
    exact this
  | succ k ih =>
    intro i G H hi hn hv ho hda hu hQ
    have hlt : (i : Int) < (n : Int) := by omega
    obtain ⟨G1, h14, hv1, hf1⟩ := sp14_8 (d := d) (L := L) hd hv ho hu hU
    have hg : 0 ≤ g ∧ g ≤ 99 := hU.2.2.2.2.2.2.2.2.2.2.1
    have := ih (i + 1) G1 (dayS g H) (by omega) hn hv1 (dayS_ok hg ho (by omega)) (by
      have e : dayS g H 0 1 = H 0 1 + 1 := rfl
      omega) (by rw [hf1.2, hu]) (fun G' a b c => hQ G' a b (fr8_t hf1 c))
    rw [show ((i + 1 : Nat) : Int) = (i : Int) + 1 from rfl] at this
    rw [s15_2]
    simp (disch := omega) only [s15_3, s15_4, s15_7, s15_11, s15_14, Int.toNat_natCast, Int.toNat_natCast, Nat.reduceAdd, Nat.reduceMul, Int.reduceToNat, Int.reduceAdd, Int.reduceLT, Int.reduceLE, Int.reduceEq, Int.reduceNeg, Int.reduceMul, Int.reduceSub, Nat.reduceSub, reduceIte, ite_true, ite_false, and_true, true_and, and_self, hlt, m15_8_8 h14]
    exact this
theorem sp15_8 {d u N L n : Nat} {t g : Int} {cl : List (Int × List Int)} {B : q_Bv} {G H : q_Gi} (hd : 3 ≤ d) (hn : n ≤ 100) (hv : hv8 G H) (ho : Hok H) (hda : H 0 1 + (n : Int) ≤ 20000) (hu : G 8 8 = (u : Int)) (hU : upl B N u t g cl) : ∃ G', Sp d 15 [.ref 8, vI n] (hp N L B G) none (hp N L B G') ∧ hv8 G' (daysS g n H) ∧ Hok (daysS g n H) ∧ fr8 G G' := by
  obtain ⟨r, X', hS, G', hr, hX, hq⟩ := E15 (d := d) (X := hp N L B G) (a1 := 8) (z2 := (n : Int)) (Q := fun r X => ∃ G', r = none ∧ X = hp N L B G' ∧ hv8 G' (daysS g n H) ∧ Hok (daysS g n H) ∧ fr8 G G') (by omega) (by
    simp only [s15_0, s15_1, Int.toNat_natCast, Int.toNat_natCast, Nat.reduceAdd, Nat.reduceMul, Int.reduceToNat, Int.reduceAdd, Int.reduceLT, Int.reduceLE, Int.reduceEq, Int.reduceNeg, Int.reduceMul, Int.reduceSub, Nat.reduceSub, reduceIte, ite_true, ite_false, and_true, true_and, and_self]
    exact lp15_8 (by omega) hU n 0 G H (by omega) hn hv ho hda hu (fun G' a b c => ⟨G', rfl, rfl, a, b, c⟩))
  exact ⟨G', by rw [hr, hX] at hS; exact hS, hq⟩
theorem lp10_8 {d u N L n : Nat} {t g : Int} {cl : List (Int × List Int)} {B : q_Bv} {G H : q_Gi} (hd : 3 ≤ d) (hv : hv8 G H) (ho : Hok H) (hn : H 0 0 = (n : Int)) (hu : G 8 8 = (u : Int)) (hU : upl B N u t g cl) : ∀ (k i : Nat), i + k = n → WP d 10 4 [.ref 8, vI (tbS (tunS t H) i), vI i] [] (hp N L B G) (fun r1 X1 => r1 = some (vI (tbS (tunS t H) n)) ∧ X1 = hp N L B G) := by
  have hok' := hok8_v hv ho
  obtain ⟨v0, v6, v7, v1, v2, v3, v4, v5⟩ := hv
  have hn6 : n ≤ 6 := by have := ho.1; omega
  intro k
  induction k with
  | zero =>
    intro i hi
    have hin : i = n := by omega
    subst hin
    have hlt : ¬ ((i : Int) < (i : Int)) := by omega
    simp (disch := omega) only [s10_4, s10_5, m10_6_1, m10_6_8, s10_9, s10_42, s10_43, Int.toNat_natCast, Int.toNat_natCast, Nat.reduceAdd, Nat.reduceMul, Int.reduceToNat, Int.reduceAdd, Int.reduceLT, Int.reduceLE, Int.reduceEq, Int.reduceNeg, Int.reduceMul, Int.reduceSub, Nat.reduceSub, reduceIte, ite_true, ite_false, and_true, true_and, and_self, v0, hn, hlt]
  | succ k ih =>
    intro i hi
    have hi6 : i < 6 := by omega
    have hlt : (i : Int) < (n : Int) := by omega
    have h3 := ho.2.2.2.1 i hi6
    have h9 := sp9_8 (d := d) (L := L) (f := H 3 i) hd hok' hu hU hi6 (by omega)
    rw [v1 i hi6, v2 i hi6] at h9
    change Sp d 9 _ _ (some (vI (bI (tunS t H i = true)))) _ at h9
    have := ih (i + 1) (by omega)
    rw [show ((i + 1 : Nat) : Int) = (i : Int) + 1 from rfl] at this
    rw [tbS_s] at this
    rw [s10_4]
    simp (disch := omega) only [s10_5, m10_6_1, m10_6_8, s10_9, s10_12, s10_13, s10_14, s10_15, m10_16_1, m10_16_8, s10_19, m10_20_11, m10_20_4, s10_24, s10_24b, s10_27, s10_28, s10_29, s10_30, s10_33, s10_34, s10_35, s10_36, s10_39, Int.toNat_natCast, Int.toNat_natCast, Nat.reduceAdd, Nat.reduceMul, Int.reduceToNat, Int.reduceAdd, Int.reduceLT, Int.reduceLE, Int.reduceEq, Int.reduceNeg, Int.reduceMul, Int.reduceSub, Nat.reduceSub, reduceIte, ite_true, ite_false, and_true, true_and, and_self, v0, hn, hlt, v3 i hi6, m10_21_8 h9]
    split <;> rename_i hc
    · rw [if_pos hc] at this; exact this
    · rw [if_neg hc] at this; exact this
theorem sp10_8 {d u N L n : Nat} {t g : Int} {cl : List (Int × List Int)} {B : q_Bv} {G H : q_Gi} (hd : 4 ≤ d) (hv : hv8 G H) (ho : Hok H) (hn : H 0 0 = (n : Int)) (hu : G 8 8 = (u : Int)) (hU : upl B N u t g cl) : Sp d 10 [.ref 8] (hp N L B G) (some (vI (tbS (tunS t H) n))) (hp N L B G) := by
  refine e10 (by omega) ?_
  simp only [s10_0, s10_1, s10_2, s10_3, Int.toNat_natCast, Int.toNat_natCast, Nat.reduceAdd, Nat.reduceMul, Int.reduceToNat, Int.reduceAdd, Int.reduceLT, Int.reduceLE, Int.reduceEq, Int.reduceNeg, Int.reduceMul, Int.reduceSub, Nat.reduceSub, reduceIte, ite_true, ite_false, and_true, true_and, and_self]
  exact lp10_8 (by omega) hv ho hn hu hU n 0 (by omega)
theorem lp16_8 {d N L n : Nat} {B : q_Bv} {G H : q_Gi} {s : Int} {z : Int} {Q : Option Value → q_H → Prop} (hs : s = 0 ∨ s = 1) (hv : hv8 G H) (ho : Hok H) (hn : H 0 0 = (n : Int)) (hQ : ∀ G', (∀ a, a ≠ 11 → G' a = G a) → (∀ j : Nat, j < 6 → G' 11 j = if (j : Int) < (n : Int) then max 0 (H 3 j - 1) else H 3 j) → Q (some (vI s)) (hp N L B G')) : ∀ (k i : Nat) (G' : q_Gi), i + k = n → (∀ a, a ≠ 11 → G' a = G a) → (∀ j : Nat, j < 6 → G' 11 j = if j < i then max 0 (H 3 j - 1) else H 3 j) → WP d 16 14 [.ref 8, vI z, vI s, vI i] [] (hp N L B G') Q := by
  intro k
  obtain ⟨v0, v6, v7, v1, v2, v3, v4, v5⟩ := hv
  have hn6 : n ≤ 6 := by have := ho.1; omega
  induction k with
  | zero =>
    intro i G' hi hf hg
    have hi2 : i = n := by omega
    subst hi2
    have h0 : G' 8 0 = (i : Int) := by rw [hf 8 (by omega), v0, hn]
    have hlt : ¬ ((i : Int) < (i : Int)) := by omega
    have := hQ G' hf (fun j hj => by rw [hg j hj]; simp only [Int.ofNat_lt])
    simp (disch := omega) only [s16_14, s16_15, m16_16_1, m16_16_8, s16_19, s16_46, s16_47, s16_47b, Int.toNat_natCast, Int.toNat_natCast, Nat.reduceAdd, Nat.reduceMul, Int.reduceToNat, Int.reduceAdd, Int.reduceLT, Int.reduceLE, Int.reduceEq, Int.reduceNeg, Int.reduceMul, Int.reduceSub, Nat.reduceSub, reduceIte, ite_true, ite_false, and_true, true_and, and_self, h0, hlt]
    exact this
  | succ k ih =>
    intro i G' hi hf hg
    have hi6 : i < 6 := by omega
    have h0 : G' 8 0 = (n : Int) := by rw [hf 8 (by omega), v0, hn]
    have hlt : (i : Int) < (n : Int) := by omega
    have hgi := hg i hi6
    rw [if_neg (by omega)] at hgi
    have hfi := ho.2.2.2.1 i hi6
    have := ih (i + 1) (ug G' 11 i (max 0 (H 3 i - 1))) (by omega) (fun a ha => by rw [ug_ne ha]; exact hf a ha) (fun j hj => by
      rw [ug_b]
      by_cases hji : j = i
      · subst hji
        simp
      · rw [if_neg (by omega), hg j hj]
        by_cases hj2 : j < i
        · rw [if_pos hj2, if_pos (by omega)]
        · rw [if_neg hj2, if_neg (by omega)])
    rw [show ((i + 1 : Nat) : Int) = (i : Int) + 1 from rfl] at this
    rw [s16_14]
    simp (disch := first | omega | assumption) only [s16_15, m16_16_1, m16_16_8, s16_19, s16_22, m16_23_1, m16_23_8, s16_26, s16_27, s16_28, m16_29_1, m16_29_8, s16_32, m16_33_11, m16_33_4, s16_34, s16_35, s16_36, m16_39_11, m16_39_4, s16_40, s16_43, Int.toNat_natCast, Int.toNat_natCast, Nat.reduceAdd, Nat.reduceMul, Int.reduceToNat, Int.reduceAdd, Int.reduceLT, Int.reduceLE, Int.reduceEq, Int.reduceNeg, Int.reduceMul, Int.reduceSub, Nat.reduceSub, reduceIte, ite_true, ite_false, and_true, true_and, and_self, h0, hlt, hgi]
    exact this
theorem sp16_8 {d u N L b : Nat} {t g : Int} {cl : List (Int × List Int)} {B : q_Bv} {G H : q_Gi} (hd : 4 ≤ d) (hb : b < 6) (hv : hv8 G H) (ho : Hok H) (hu : G 8 8 = (u : Int)) (hU : upl B N u t g cl) : ∃ G', Sp d 16 [.ref 8, vI b] (hp N L B G) (some (vI (bI (tunS t H b = true)))) (hp N L B G') ∧ hv8 G' (strokeS H) ∧ fr8 G G' := by
  have hok' := hok8_v hv ho
  have hv0 := hv
  obtain ⟨v0, v6, v7, v1, v2, v3, v4, v5⟩ := hv
  obtain ⟨n, hn⟩ : ∃ n : Nat, H 0 0 = (n : Int) := ⟨(H 0 0).toNat, by have := ho.1; omega⟩
  have h3 := ho.2.2.2.1 b hb
  have h9 := sp9_8 (d := d - 1) (L := L) (f := H 3 b) (by omega) hok' hu hU hb (by omega)
  rw [v1 b hb, v2 b hb] at h9
  obtain ⟨r, X', hS, G', hr, hX, hq⟩ := E16 (d := d) (X := hp N L B G) (a1 := 8) (z2 := (b : Int)) (Q := fun r X => ∃ G', r = some (vI (bI (tunS t H b = true))) ∧ X = hp N L B G' ∧ hv8 G' (strokeS H) ∧ fr8 G G') (by omega) (by
    simp (disch := omega) only [s16_0, s16_1, s16_2, m16_3_1, m16_3_8, s16_6, m16_7_11, m16_7_4, s16_11, s16_12, s16_13, Int.toNat_natCast, Int.toNat_natCast, Nat.reduceAdd, Nat.reduceMul, Int.reduceToNat, Int.reduceAdd, Int.reduceLT, Int.reduceLE, Int.reduceEq, Int.reduceNeg, Int.reduceMul, Int.reduceSub, Nat.reduceSub, reduceIte, ite_true, ite_false, and_true, true_and, and_self, v3 b hb, m16_8_8 h9]
    refine lp16_8 (bI_01 _) hv0 ho hn (fun G' hf hg => ?_) n 0 G (by omega) (fun _ _ => rfl) (fun j hj => by rw [if_neg (by omega)]; exact v3 j hj)
    refine ⟨G', rfl, rfl, ⟨?_, ?_, ?_, ?_, ?_, ?_, ?_, ?_⟩, ?_, ?_⟩
    · rw [hf 8 (by omega), v0]; rfl
    · rw [hf 8 (by omega), v6]; rfl
    · rw [hf 8 (by omega), v7]; rfl
    · intro k hk; rw [hf 9 (by omega), v1 k hk]; rfl
    · intro k hk; rw [hf 10 (by omega), v2 k hk]; rfl
    · intro k hk
      rw [hg k hk]
      show _ = (if (k : Int) < H 0 0 then max 0 (H 3 k - 1) else H 3 k)
      rw [hn]
    · intro k hk; rw [hf 12 (by omega), v4 k hk]; rfl
    · intro k hk; rw [hf 13 (by omega), v5 k hk]; rfl
    · intro a ha; exact hf a (by omega)
    · rw [hf 8 (by omega)])
  exact ⟨G', by rw [hr, hX] at hS; exact hS, hq⟩
theorem sp13_8 {d u N L b e : Nat} {t g : Int} {cl : List (Int × List Int)} {B : q_Bv} {G H : q_Gi} (hd : 6 ≤ d) (hb : b < 6) (he : e < 4) (hv : hv8 G H) (ho : Hok H) (hu : G 8 8 = (u : Int)) (hU : upl B N u t g cl) : ∃ G', Sp d 13 [.ref 8, vI b, vI e] (hp N L B G) none (hp N L B G') ∧ hv8 G' (eatS cl b e H) ∧ fr8 G G' := by
  have hok' := hok8_v hv ho
  obtain ⟨v0, v6, v7, v1, v2, v3, v4, v5⟩ := hv
  have h3 := ho.2.2.2.1 b hb
  have h7 := ho.2.2.2.2.2.2.2
  have h5 := ho.2.2.2.2.2.1 e he
  obtain ⟨G1, h12, hf⟩ := sp12_8 (d := d - 1) (L := L) (fd := H 3 b) (by omega) hok' hu hU hb he (by omega)
  rw [v1 b hb, v2 b hb, v6] at h12
  have w5 : G1 13 e = H 5 e := by rw [hf 13 (by omega), v5 e he]
  have w7 : G1 8 7 = H 0 2 := by rw [hf 8 (by omega), v7]
  obtain ⟨r, X', hS, G', hr, hX, hq⟩ := E13 (d := d) (X := hp N L B G) (a1 := 8) (z2 := (b : Int)) (z3 := (e : Int)) (Q := fun r X => ∃ G', r = none ∧ X = hp N L B G' ∧ hv8 G' (eatS cl b e H) ∧ fr8 G G') (by omega) (by
    simp (disch := omega) only [s13_0, m13_1_1, m13_1_8, s13_4, s13_5, s13_6, s13_7, s13_8, m13_9_1, m13_9_8, s13_12, m13_13_11, m13_13_4, m13_17_11, m13_17_4, s13_18, m13_19_1, m13_19_8, s13_22, s13_23, m13_24_13, m13_24_6, s13_25, s13_26, m13_27_13, m13_27_6, s13_28, s13_29, m13_30_1, m13_30_8, s13_33, s13_34, m13_35_1, m13_35_8, s13_38, Int.toNat_natCast, Int.toNat_natCast, Nat.reduceAdd, Nat.reduceMul, Int.reduceToNat, Int.reduceAdd, Int.reduceLT, Int.reduceLE, Int.reduceEq, Int.reduceNeg, Int.reduceMul, Int.reduceSub, Nat.reduceSub, reduceIte, ite_true, ite_false, and_true, true_and, and_self, v3 b hb, m13_14_8 h12, ug_ne, w5, w7]
    refine ⟨_, rfl, ⟨?_, ?_, ?_, ?_, ?_, ?_, ?_, ?_⟩, ?_, ?_⟩
    · simp (disch := omega) only [ug_ne, ug_k, hf, v0]; rfl
    · simp (disch := omega) only [ug_ne, ug_k, hf, v6]; rfl
    · simp only [ug_at]; rfl
    · intro k hk; simp (disch := omega) only [ug_ne, hf, v1 k hk]; rfl
    · intro k hk; simp (disch := omega) only [ug_ne, hf, v2 k hk]; rfl
    · intro k hk
      simp (disch := omega) only [ug_ne]
      by_cases hkb : k = b
      · subst hkb
        rw [ug_at]
        simp [eatS]; rfl
      · rw [ug_k hkb, hf 11 (by omega), v3 k hk]
        simp [eatS, hkb]
    · intro k hk; simp (disch := omega) only [ug_ne, hf, v4 k hk]; rfl
    · intro k hk
      simp (disch := omega) only [ug_ne]
      by_cases hkb : k = e
      · subst hkb
        rw [ug_at]
        simp [eatS]
      · rw [ug_k hkb, ug_ne (by omega), hf 13 (by omega), v5 k hk]
        simp [eatS, hkb]
    · intro a ha; simp (disch := omega) only [ug_ne, hf]
    · simp (disch := omega) only [ug_ne, ug_k, hf])
  exact ⟨G', by rw [hr, hX] at hS; exact hS, hq⟩
