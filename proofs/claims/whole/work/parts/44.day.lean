/-! a hill as numbers H: 0 (0 how many bells, 1 day, 2 eaten), 1 kinds, 2 v, 3 fed, 4 rows, 5 stores -/
def Hok (H : q_Gi) : Prop := (0 ≤ H 0 0 ∧ H 0 0 ≤ 6) ∧ (∀ b, b < 6 → 0 ≤ H 1 b ∧ H 1 b ≤ 6) ∧ (∀ b, b < 6 → 0 ≤ H 2 b ∧ H 2 b ≤ 9) ∧ (∀ b, b < 6 → 0 ≤ H 3 b ∧ H 3 b ≤ 99) ∧ (∀ b, b < 24 → 0 ≤ H 4 b ∧ H 4 b ≤ 9) ∧ (∀ b, b < 4 → 0 ≤ H 5 b ∧ H 5 b ≤ 99) ∧ (0 ≤ H 0 1 ∧ H 0 1 ≤ 20000) ∧ (0 ≤ H 0 2 ∧ H 0 2 ≤ 200000)
def hungS (H : q_Gi) (b : Nat) : Int := hungerS (H 1 b) (H 2 b) (H 4 (b * 4 + (H 0 1).toNat % 4))
def dayS (g : Int) (H : q_Gi) : q_Gi := fun f k => if f = 0 ∧ k = 1 then H 0 1 + 1 else if f = 3 then (if (k : Int) < H 0 0 then max 0 (H 3 k - hungS H k) else H 3 k) else if f = 5 then (if k = (H 0 1).toNat % 4 then min 99 (H 5 k + g) else H 5 k) else H f k
def daysS (g : Int) : Nat → q_Gi → q_Gi
  | 0, H => H
  | n + 1, H => daysS g n (dayS g H)
def fillS (cl : List (Int × List Int)) (H : q_Gi) (b f : Nat) (fd : Int) : Int := fillsS cl (H 1 b) (H 2 b) b f fd (H 0 1)
def eatS (cl : List (Int × List Int)) (b e : Nat) (H : q_Gi) : q_Gi := fun f k => if f = 0 ∧ k = 2 then H 0 2 + 1 else if f = 3 ∧ k = b then min 99 (H 3 b + fillS cl H b e (H 3 b)) else if f = 5 ∧ k = e then H 5 e - 1 else H f k
def strokeS (H : q_Gi) : q_Gi := fun f k => if f = 3 then (if (k : Int) < H 0 0 then max 0 (H 3 k - 1) else H 3 k) else H f k
def tunS (t : Int) (H : q_Gi) (b : Nat) : Bool := tunedS t (H 1 b) (H 2 b) (H 3 b)
/-- those of the first n that p holds for, as bits -/
def tbS (p : Nat → Bool) : Nat → Int
  | 0 => 0
  | n + 1 => ior (tbS p n) (if p n = true then ishl 1 n else 0)
theorem hungerS_r {k v r : Int} (hv : 0 ≤ v ∧ v ≤ 9) (hr : 0 ≤ r ∧ r ≤ 9) : 0 ≤ hungerS k v r ∧ hungerS k v r ≤ 30 := by unfold hungerS; (repeat' split) <;> omega
theorem hungS_r {H : q_Gi} (ho : Hok H) {b : Nat} (hb : b < 6) : 0 ≤ hungS H b ∧ hungS H b ≤ 30 := hungerS_r (ho.2.2.1 b hb) (ho.2.2.2.2.1 _ (by omega))
theorem dayS_ok {g : Int} {H : q_Gi} (hg : 0 ≤ g ∧ g ≤ 99) (ho : Hok H) (hd : H 0 1 < 20000) : Hok (dayS g H) := by
  obtain ⟨h0, h1, h2, h3, h4, h5, h6, h7⟩ := ho
  refine ⟨h0, h1, h2, fun b hb => ?_, h4, fun b hb => ?_, ?_, h7⟩
  · have := hungS_r ⟨h0, h1, h2, h3, h4, h5, h6, h7⟩ hb
    have := h3 b hb
    show 0 ≤ (if (b : Int) < H 0 0 then max 0 (H 3 b - hungS H b) else H 3 b) ∧ (if (b : Int) < H 0 0 then max 0 (H 3 b - hungS H b) else H 3 b) ≤ 99
    split <;> omega
  · have := h5 b hb
    show 0 ≤ (if b = (H 0 1).toNat % 4 then min 99 (H 5 b + g) else H 5 b) ∧ (if b = (H 0 1).toNat % 4 then min 99 (H 5 b + g) else H 5 b) ≤ 99
    split <;> omega
  · show 0 ≤ H 0 1 + 1 ∧ H 0 1 + 1 ≤ 20000
    omega
theorem strokeS_ok {H : q_Gi} (ho : Hok H) : Hok (strokeS H) := by
  obtain ⟨h0, h1, h2, h3, h4, h5, h6, h7⟩ := ho
  refine ⟨h0, h1, h2, fun b hb => ?_, h4, h5, h6, h7⟩
  have := h3 b hb
  show 0 ≤ (if (b : Int) < H 0 0 then max 0 (H 3 b - 1) else H 3 b) ∧ (if (b : Int) < H 0 0 then max 0 (H 3 b - 1) else H 3 b) ≤ 99
  split <;> omega
theorem eatS_ok {cl : List (Int × List Int)} {B : q_Bv} {N u : Nat} {t g : Int} {b e : Nat} {H : q_Gi} (hU : upl B N u t g cl) (ho : Hok H) (hb : b < 6) (he : e < 4) (hs : 0 < H 5 e) (hn : H 0 2 < 200000) : Hok (eatS cl b e H) := by
  obtain ⟨h0, h1, h2, h3, h4, h5, h6, h7⟩ := ho
  have hf := @fillsS_r cl B N u t g (H 1 b) (H 2 b) b e (H 3 b) (H 0 1) hU (by omega) (h2 b hb)
  have hf2 : fillS cl H b e (H 3 b) = fillsS cl (H 1 b) (H 2 b) b e (H 3 b) (H 0 1) := rfl
  have hb3 := h3 b hb
  refine ⟨h0, h1, h2, fun k hk => ?_, h4, fun k hk => ?_, h6, ?_⟩
  · have := h3 k hk
    have e1 : eatS cl b e H 3 k = if k = b then min 99 (H 3 b + fillS cl H b e (H 3 b)) else H 3 k := by unfold eatS; simp
    rw [e1]
    split <;> omega
  · have := h5 k hk
    have e1 : eatS cl b e H 5 k = if k = e then H 5 e - 1 else H 5 k := by unfold eatS; simp
    rw [e1]
    split
    · rename_i hke; subst hke; omega
    · omega
  · show 0 ≤ H 0 2 + 1 ∧ H 0 2 + 1 ≤ 200000
    omega
/-- the hill 1 holds H -/
def hv1 (G H : q_Gi) : Prop := G 1 0 = H 0 0 ∧ G 1 6 = H 0 1 ∧ G 1 7 = H 0 2 ∧ (∀ k, k < 6 → G 2 k = H 1 k) ∧ (∀ k, k < 6 → G 3 k = H 2 k) ∧ (∀ k, k < 6 → G 4 k = H 3 k) ∧ (∀ k, k < 24 → G 5 k = H 4 k) ∧ (∀ k, k < 4 → G 6 k = H 5 k)
/-- all but the hill 1's cells is as it was, and the upland it is in -/
def fr1 (G G' : q_Gi) : Prop := (∀ a, (a < 1 ∨ 7 < a) → G' a = G a) ∧ G' 1 8 = G 1 8
theorem fr1_r (G : q_Gi) : fr1 G G := ⟨fun _ _ => rfl, rfl⟩
theorem fr1_t {G G' G'' : q_Gi} (h1 : fr1 G G') (h2 : fr1 G' G'') : fr1 G G'' := ⟨fun a ha => (h2.1 a ha).trans (h1.1 a ha), h2.2.trans h1.2⟩
theorem hv1_f {G G' H : q_Gi} (hv : hv1 G H) (e : ∀ a, 1 ≤ a → a ≤ 6 → G' a = G a) : hv1 G' H := by
  obtain ⟨v0, v6, v7, v1, v2, v3, v4, v5⟩ := hv
  refine ⟨?_, ?_, ?_, ?_, ?_, ?_, ?_, ?_⟩
  · rw [e 1 (by omega) (by omega)]; exact v0
  · rw [e 1 (by omega) (by omega)]; exact v6
  · rw [e 1 (by omega) (by omega)]; exact v7
  · rw [e 2 (by omega) (by omega)]; exact v1
  · rw [e 3 (by omega) (by omega)]; exact v2
  · rw [e 4 (by omega) (by omega)]; exact v3
  · rw [e 5 (by omega) (by omega)]; exact v4
  · rw [e 6 (by omega) (by omega)]; exact v5
/-- the hill 8 holds H -/
def hv8 (G H : q_Gi) : Prop := G 8 0 = H 0 0 ∧ G 8 6 = H 0 1 ∧ G 8 7 = H 0 2 ∧ (∀ k, k < 6 → G 9 k = H 1 k) ∧ (∀ k, k < 6 → G 10 k = H 2 k) ∧ (∀ k, k < 6 → G 11 k = H 3 k) ∧ (∀ k, k < 24 → G 12 k = H 4 k) ∧ (∀ k, k < 4 → G 13 k = H 5 k)
/-- all but the hill 8's cells is as it was, and the upland it is in -/
def fr8 (G G' : q_Gi) : Prop := (∀ a, (a < 8 ∨ 14 < a) → G' a = G a) ∧ G' 8 8 = G 8 8
theorem fr8_r (G : q_Gi) : fr8 G G := ⟨fun _ _ => rfl, rfl⟩
theorem fr8_t {G G' G'' : q_Gi} (h1 : fr8 G G') (h2 : fr8 G' G'') : fr8 G G'' := ⟨fun a ha => (h2.1 a ha).trans (h1.1 a ha), h2.2.trans h1.2⟩
theorem hv8_f {G G' H : q_Gi} (hv : hv8 G H) (e : ∀ a, 8 ≤ a → a ≤ 13 → G' a = G a) : hv8 G' H := by
  obtain ⟨v0, v6, v7, v1, v2, v3, v4, v5⟩ := hv
  refine ⟨?_, ?_, ?_, ?_, ?_, ?_, ?_, ?_⟩
  · rw [e 8 (by omega) (by omega)]; exact v0
  · rw [e 8 (by omega) (by omega)]; exact v6
  · rw [e 8 (by omega) (by omega)]; exact v7
  · rw [e 9 (by omega) (by omega)]; exact v1
  · rw [e 10 (by omega) (by omega)]; exact v2
  · rw [e 11 (by omega) (by omega)]; exact v3
  · rw [e 12 (by omega) (by omega)]; exact v4
  · rw [e 13 (by omega) (by omega)]; exact v5
/-- the hill 15 holds H -/
def hv15 (G H : q_Gi) : Prop := G 15 0 = H 0 0 ∧ G 15 6 = H 0 1 ∧ G 15 7 = H 0 2 ∧ (∀ k, k < 6 → G 16 k = H 1 k) ∧ (∀ k, k < 6 → G 17 k = H 2 k) ∧ (∀ k, k < 6 → G 18 k = H 3 k) ∧ (∀ k, k < 24 → G 19 k = H 4 k) ∧ (∀ k, k < 4 → G 20 k = H 5 k)
/-- all but the hill 15's cells is as it was, and the upland it is in -/
def fr15 (G G' : q_Gi) : Prop := (∀ a, (a < 15 ∨ 21 < a) → G' a = G a) ∧ G' 15 8 = G 15 8
theorem fr15_r (G : q_Gi) : fr15 G G := ⟨fun _ _ => rfl, rfl⟩
theorem fr15_t {G G' G'' : q_Gi} (h1 : fr15 G G') (h2 : fr15 G' G'') : fr15 G G'' := ⟨fun a ha => (h2.1 a ha).trans (h1.1 a ha), h2.2.trans h1.2⟩
theorem hv15_f {G G' H : q_Gi} (hv : hv15 G H) (e : ∀ a, 15 ≤ a → a ≤ 20 → G' a = G a) : hv15 G' H := by
  obtain ⟨v0, v6, v7, v1, v2, v3, v4, v5⟩ := hv
  refine ⟨?_, ?_, ?_, ?_, ?_, ?_, ?_, ?_⟩
  · rw [e 15 (by omega) (by omega)]; exact v0
  · rw [e 15 (by omega) (by omega)]; exact v6
  · rw [e 15 (by omega) (by omega)]; exact v7
  · rw [e 16 (by omega) (by omega)]; exact v1
  · rw [e 17 (by omega) (by omega)]; exact v2
  · rw [e 18 (by omega) (by omega)]; exact v3
  · rw [e 19 (by omega) (by omega)]; exact v4
  · rw [e 20 (by omega) (by omega)]; exact v5
theorem hok1_v {G H : q_Gi} (hv : hv1 G H) (ho : Hok H) : hok1 G := by
  obtain ⟨v0, v6, v7, v1, v2, v3, v4, v5⟩ := hv
  refine ⟨fun b hb => ?_, fun b hb => ?_, fun b hb => ?_, ?_⟩
  · rw [v1 b hb]; exact ho.2.1 b hb
  · rw [v2 b hb]; exact ho.2.2.1 b hb
  · rw [v4 b hb]; exact ho.2.2.2.2.1 b hb
  · rw [v6]; exact ho.2.2.2.2.2.2.1
theorem lp14_1 {d N L n : Nat} {B : q_Bv} {G H : q_Gi} {Q : Option Value → q_H → Prop} (hd : 1 ≤ d) (hv : hv1 G H) (ho : Hok H) (hn : H 0 0 = (n : Int)) (hQ : ∀ G', (∀ a, a ≠ 4 → G' a = G a) → (∀ j : Nat, j < 6 → G' 4 j = if (j : Int) < (n : Int) then max 0 (H 3 j - hungS H j) else H 3 j) → WP d 14 38 [.ref 1, vI n] [] (hp N L B G') Q) : ∀ (k i : Nat) (G' : q_Gi), i + k = n → (∀ a, a ≠ 4 → G' a = G a) → (∀ j : Nat, j < 6 → G' 4 j = if j < i then max 0 (H 3 j - hungS H j) else H 3 j) → WP d 14 2 [.ref 1, vI i] [] (hp N L B G') Q := by
  intro k
  have hv0 := hv
  obtain ⟨v0, v6, v7, v1, v2, v3, v4, v5⟩ := hv
  have hn6 : n ≤ 6 := by have := ho.1; omega
  induction k with
  | zero =>
    intro i G' hi hf hg
    have hi2 : i = n := by omega
    subst hi2
    have h0 : G' 1 0 = (i : Int) := by rw [hf 1 (by omega), v0, hn]
    have hlt : ¬ ((i : Int) < (i : Int)) := by omega
    have := hQ G' hf (fun j hj => by rw [hg j hj]; simp only [Int.ofNat_lt])
    simp (disch := omega) only [s14_2, s14_3, m14_4_1, m14_4_8, s14_7, Int.toNat_natCast, Int.toNat_natCast, Nat.reduceAdd, Nat.reduceMul, Int.reduceToNat, Int.reduceAdd, Int.reduceLT, Int.reduceLE, Int.reduceEq, Int.reduceNeg, Int.reduceMul, Int.reduceSub, Nat.reduceSub, reduceIte, ite_true, ite_false, and_true, true_and, and_self, h0, hlt]
    exact this
  | succ k ih =>
    intro i G' hi hf hg
    have hi6 : i < 6 := by omega
    have h0 : G' 1 0 = (n : Int) := by rw [hf 1 (by omega), v0, hn]
    have hlt : (i : Int) < (n : Int) := by omega
    have hok' : hok1 G' := hok1_c (by rw [hf 1 (by omega)]) (hf 2 (by omega)) (hf 3 (by omega)) (hf 5 (by omega)) (hok1_v hv0 ho)
    have h6 := sp6_1 (d := d) (N := N) (L := L) (B := B) hd hok' hi6
    have eh : hungerS (G' 2 i) (G' 3 i) (G' 5 (i * 4 + (G' 1 6).toNat % 4)) = hungS H i := by
      rw [hf 1 (by omega), hf 2 (by omega), hf 3 (by omega), hf 5 (by omega), v1 i hi6, v2 i hi6, v6, v4 _ (by omega)]
      rfl
    rw [eh] at h6
    have hr := hungS_r ho hi6
    have hgi := hg i hi6
    rw [if_neg (by omega)] at hgi
    have hfi := ho.2.2.2.1 i hi6
    have := ih (i + 1) (ug G' 4 i (max 0 (H 3 i - hungS H i))) (by omega) (fun a ha => by rw [ug_ne ha]; exact hf a ha) (fun j hj => by
      rw [ug_b]
      by_cases hji : j = i
      · subst hji
        simp
      · rw [if_neg (by omega), hg j hj]
        by_cases hj2 : j < i
        · rw [if_pos hj2, if_pos (by omega)]
        · rw [if_neg hj2, if_neg (by omega)])
    rw [show ((i + 1 : Nat) : Int) = (i : Int) + 1 from rfl] at this
    rw [s14_2]
    simp (disch := first | omega | assumption) only [s14_3, m14_4_1, m14_4_8, s14_7, s14_10, m14_11_1, m14_11_8, s14_14, s14_15, s14_16, m14_17_1, m14_17_8, s14_20, m14_21_11, m14_21_4, s14_22, s14_23, s14_27, s14_28, m14_31_11, m14_31_4, s14_32, s14_35, Int.toNat_natCast, Int.toNat_natCast, Nat.reduceAdd, Nat.reduceMul, Int.reduceToNat, Int.reduceAdd, Int.reduceLT, Int.reduceLE, Int.reduceEq, Int.reduceNeg, Int.reduceMul, Int.reduceSub, Nat.reduceSub, reduceIte, ite_true, ite_false, and_true, true_and, and_self, h0, hlt, m14_24_1 h6, hgi]
    exact this
theorem sp14_1 {d u N L : Nat} {t g : Int} {cl : List (Int × List Int)} {B : q_Bv} {G H : q_Gi} (hd : 2 ≤ d) (hv : hv1 G H) (ho : Hok H) (hu : G 1 8 = (u : Int)) (hU : upl B N u t g cl) : ∃ G', Sp d 14 [.ref 1] (hp N L B G) none (hp N L B G') ∧ hv1 G' (dayS g H) ∧ fr1 G G' := by
  obtain ⟨v0, v6, v7, v1, v2, v3, v4, v5⟩ := hv
  obtain ⟨n, hn⟩ : ∃ n : Nat, H 0 0 = (n : Int) := ⟨(H 0 0).toNat, by have := ho.1; omega⟩
  have h61 := ho.2.2.2.2.2.2.1
  have hu1 := hU.1
  have hu2 : u < N + 129 := by have := hU.2.1; omega
  have hu4 : B u 1 = vI g := hU.2.2.2.1
  have hgr := hU.2.2.2.2.2.2.2.2.2.2.1
  have hm5 := ho.2.2.2.2.2.1 ((H 0 1).toNat % 4) (by omega)
  have e1 : (H 0 1 % 4).toNat = (H 0 1).toNat % 4 := by omega
  obtain ⟨r, X', hS, G', hr, hX, hq⟩ := E14 (d := d) (X := hp N L B G) (a1 := 1) (Q := fun r X => ∃ G', r = none ∧ X = hp N L B G' ∧ hv1 G' (dayS g H) ∧ fr1 G G') (by omega) (by
    simp only [s14_0, s14_1, Int.toNat_natCast, Int.toNat_natCast, Nat.reduceAdd, Nat.reduceMul, Int.reduceToNat, Int.reduceAdd, Int.reduceLT, Int.reduceLE, Int.reduceEq, Int.reduceNeg, Int.reduceMul, Int.reduceSub, Nat.reduceSub, reduceIte, ite_true, ite_false, and_true, true_and, and_self]
    refine lp14_1 (by omega) ⟨v0, v6, v7, v1, v2, v3, v4, v5⟩ ho hn (fun G' hf hg => ?_) n 0 G (by omega) (fun _ _ => rfl) (fun j hj => by rw [if_neg (by omega)]; exact v3 j hj)
    have w6 : G' 1 6 = H 0 1 := by rw [hf 1 (by omega), v6]
    have w8 : G' 1 8 = (u : Int) := by rw [hf 1 (by omega), hu]
    have w5 : G' 6 ((H 0 1).toNat % 4) = H 5 ((H 0 1).toNat % 4) := by rw [hf 6 (by omega), v5 _ (by omega)]
    simp (disch := first | omega | assumption) only [s14_38, m14_39_1, m14_39_8, s14_42, s14_43, s14_44, s14_45, m14_46_1, m14_46_8, s14_49, s14_50, s14_52, m14_53_1, m14_53_8, s14_56, m14_57_13, m14_57_6, s14_58, m14_59_1, m14_59_8, m14_62, s14_65, s14_66, m14_69_13, m14_69_6, s14_70, s14_71, m14_72_1, m14_72_8, s14_75, s14_76, m14_77_1, m14_77_8, s14_80, Int.toNat_natCast, Int.toNat_natCast, Nat.reduceAdd, Nat.reduceMul, Int.reduceToNat, Int.reduceAdd, Int.reduceLT, Int.reduceLE, Int.reduceEq, Int.reduceNeg, Int.reduceMul, Int.reduceSub, Nat.reduceSub, reduceIte, ite_true, ite_false, and_true, true_and, and_self, ug_ne, w6, w8, hu4, e1, w5]
    refine ⟨_, rfl, ⟨?_, ?_, ?_, ?_, ?_, ?_, ?_, ?_⟩, ?_, ?_⟩
    · simp (disch := omega) only [ug_ne, ug_k, hf, v0]; rfl
    · simp only [ug_at]; rfl
    · simp (disch := omega) only [ug_ne, ug_k, hf, v7]; rfl
    · intro k hk; simp (disch := omega) only [ug_ne, hf, v1 k hk]; rfl
    · intro k hk; simp (disch := omega) only [ug_ne, hf, v2 k hk]; rfl
    · intro k hk
      simp (disch := omega) only [ug_ne, hg k hk]
      show _ = (if (k : Int) < H 0 0 then max 0 (H 3 k - hungS H k) else H 3 k)
      rw [hn]
    · intro k hk; simp (disch := omega) only [ug_ne, hf, v4 k hk]; rfl
    · intro k hk
      simp (disch := omega) only [ug_ne]
      show _ = (if k = (H 0 1).toNat % 4 then min 99 (H 5 k + g) else H 5 k)
      by_cases hk2 : k = (H 0 1).toNat % 4
      · subst hk2
        rw [if_pos rfl, ug_at]
      · rw [if_neg hk2, ug_k hk2, hf 6 (by omega), v5 k hk]
    · intro a ha
      simp (disch := omega) only [ug_ne, hf]
    · simp (disch := omega) only [ug_ne, ug_k, hf])
  exact ⟨G', by rw [hr, hX] at hS; exact hS, hq⟩
theorem hok8_v {G H : q_Gi} (hv : hv8 G H) (ho : Hok H) : hok8 G := by
  obtain ⟨v0, v6, v7, v1, v2, v3, v4, v5⟩ := hv
  refine ⟨fun b hb => ?_, fun b hb => ?_, fun b hb => ?_, ?_⟩
  · rw [v1 b hb]; exact ho.2.1 b hb
  · rw [v2 b hb]; exact ho.2.2.1 b hb
  · rw [v4 b hb]; exact ho.2.2.2.2.1 b hb
  · rw [v6]; exact ho.2.2.2.2.2.2.1
theorem lp14_8 {d N L n : Nat} {B : q_Bv} {G H : q_Gi} {Q : Option Value → q_H → Prop} (hd : 1 ≤ d) (hv : hv8 G H) (ho : Hok H) (hn : H 0 0 = (n : Int)) (hQ : ∀ G', (∀ a, a ≠ 11 → G' a = G a) → (∀ j : Nat, j < 6 → G' 11 j = if (j : Int) < (n : Int) then max 0 (H 3 j - hungS H j) else H 3 j) → WP d 14 38 [.ref 8, vI n] [] (hp N L B G') Q) : ∀ (k i : Nat) (G' : q_Gi), i + k = n → (∀ a, a ≠ 11 → G' a = G a) → (∀ j : Nat, j < 6 → G' 11 j = if j < i then max 0 (H 3 j - hungS H j) else H 3 j) → WP d 14 2 [.ref 8, vI i] [] (hp N L B G') Q := by
  intro k
  have hv0 := hv
  obtain ⟨v0, v6, v7, v1, v2, v3, v4, v5⟩ := hv
  have hn6 : n ≤ 6 := by have := ho.1; omega
  induction k with
  | zero =>
    intro i G' hi hf hg
    have hi2 : i = n := by omega
    subst hi2
    have h0 : G' 8 0 = (i : Int) := by rw [hf 8 (by omega), v0, hn]
    have hlt : ¬ ((i : Int) < (i : Int)) := by omega
    have := hQ G' hf (fun j hj => by rw [hg j hj]; simp only [Int.ofNat_lt])
    simp (disch := omega) only [s14_2, s14_3, m14_4_1, m14_4_8, s14_7, Int.toNat_natCast, Int.toNat_natCast, Nat.reduceAdd, Nat.reduceMul, Int.reduceToNat, Int.reduceAdd, Int.reduceLT, Int.reduceLE, Int.reduceEq, Int.reduceNeg, Int.reduceMul, Int.reduceSub, Nat.reduceSub, reduceIte, ite_true, ite_false, and_true, true_and, and_self, h0, hlt]
    exact this
  | succ k ih =>
    intro i G' hi hf hg
    have hi6 : i < 6 := by omega
    have h0 : G' 8 0 = (n : Int) := by rw [hf 8 (by omega), v0, hn]
    have hlt : (i : Int) < (n : Int) := by omega
    have hok' : hok8 G' := hok8_c (by rw [hf 8 (by omega)]) (hf 9 (by omega)) (hf 10 (by omega)) (hf 12 (by omega)) (hok8_v hv0 ho)
    have h6 := sp6_8 (d := d) (N := N) (L := L) (B := B) hd hok' hi6
    have eh : hungerS (G' 9 i) (G' 10 i) (G' 12 (i * 4 + (G' 8 6).toNat % 4)) = hungS H i := by
      rw [hf 8 (by omega), hf 9 (by omega), hf 10 (by omega), hf 12 (by omega), v1 i hi6, v2 i hi6, v6, v4 _ (by omega)]
      rfl
    rw [eh] at h6
    have hr := hungS_r ho hi6
    have hgi := hg i hi6
    rw [if_neg (by omega)] at hgi
    have hfi := ho.2.2.2.1 i hi6
    have := ih (i + 1) (ug G' 11 i (max 0 (H 3 i - hungS H i))) (by omega) (fun a ha => by rw [ug_ne ha]; exact hf a ha) (fun j hj => by
      rw [ug_b]
      by_cases hji : j = i
      · subst hji
        simp
      · rw [if_neg (by omega), hg j hj]
        by_cases hj2 : j < i
        · rw [if_pos hj2, if_pos (by omega)]
        · rw [if_neg hj2, if_neg (by omega)])
    rw [show ((i + 1 : Nat) : Int) = (i : Int) + 1 from rfl] at this
    rw [s14_2]
    simp (disch := first | omega | assumption) only [s14_3, m14_4_1, m14_4_8, s14_7, s14_10, m14_11_1, m14_11_8, s14_14, s14_15, s14_16, m14_17_1, m14_17_8, s14_20, m14_21_11, m14_21_4, s14_22, s14_23, s14_27, s14_28, m14_31_11, m14_31_4, s14_32, s14_35, Int.toNat_natCast, Int.toNat_natCast, Nat.reduceAdd, Nat.reduceMul, Int.reduceToNat, Int.reduceAdd, Int.reduceLT, Int.reduceLE, Int.reduceEq, Int.reduceNeg, Int.reduceMul, Int.reduceSub, Nat.reduceSub, reduceIte, ite_true, ite_false, and_true, true_and, and_self, h0, hlt, m14_24_8 h6, hgi]
    exact this
theorem sp14_8 {d u N L : Nat} {t g : Int} {cl : List (Int × List Int)} {B : q_Bv} {G H : q_Gi} (hd : 2 ≤ d) (hv : hv8 G H) (ho : Hok H) (hu : G 8 8 = (u : Int)) (hU : upl B N u t g cl) : ∃ G', Sp d 14 [.ref 8] (hp N L B G) none (hp N L B G') ∧ hv8 G' (dayS g H) ∧ fr8 G G' := by
  obtain ⟨v0, v6, v7, v1, v2, v3, v4, v5⟩ := hv
  obtain ⟨n, hn⟩ : ∃ n : Nat, H 0 0 = (n : Int) := ⟨(H 0 0).toNat, by have := ho.1; omega⟩
  have h61 := ho.2.2.2.2.2.2.1
  have hu1 := hU.1
  have hu2 : u < N + 129 := by have := hU.2.1; omega
  have hu4 : B u 1 = vI g := hU.2.2.2.1
  have hgr := hU.2.2.2.2.2.2.2.2.2.2.1
  have hm5 := ho.2.2.2.2.2.1 ((H 0 1).toNat % 4) (by omega)
  have e1 : (H 0 1 % 4).toNat = (H 0 1).toNat % 4 := by omega
  obtain ⟨r, X', hS, G', hr, hX, hq⟩ := E14 (d := d) (X := hp N L B G) (a1 := 8) (Q := fun r X => ∃ G', r = none ∧ X = hp N L B G' ∧ hv8 G' (dayS g H) ∧ fr8 G G') (by omega) (by
    simp only [s14_0, s14_1, Int.toNat_natCast, Int.toNat_natCast, Nat.reduceAdd, Nat.reduceMul, Int.reduceToNat, Int.reduceAdd, Int.reduceLT, Int.reduceLE, Int.reduceEq, Int.reduceNeg, Int.reduceMul, Int.reduceSub, Nat.reduceSub, reduceIte, ite_true, ite_false, and_true, true_and, and_self]
    refine lp14_8 (by omega) ⟨v0, v6, v7, v1, v2, v3, v4, v5⟩ ho hn (fun G' hf hg => ?_) n 0 G (by omega) (fun _ _ => rfl) (fun j hj => by rw [if_neg (by omega)]; exact v3 j hj)
    have w6 : G' 8 6 = H 0 1 := by rw [hf 8 (by omega), v6]
    have w8 : G' 8 8 = (u : Int) := by rw [hf 8 (by omega), hu]
    have w5 : G' 13 ((H 0 1).toNat % 4) = H 5 ((H 0 1).toNat % 4) := by rw [hf 13 (by omega), v5 _ (by omega)]
    simp (disch := first | omega | assumption) only [s14_38, m14_39_1, m14_39_8, s14_42, s14_43, s14_44, s14_45, m14_46_1, m14_46_8, s14_49, s14_50, s14_52, m14_53_1, m14_53_8, s14_56, m14_57_13, m14_57_6, s14_58, m14_59_1, m14_59_8, m14_62, s14_65, s14_66, m14_69_13, m14_69_6, s14_70, s14_71, m14_72_1, m14_72_8, s14_75, s14_76, m14_77_1, m14_77_8, s14_80, Int.toNat_natCast, Int.toNat_natCast, Nat.reduceAdd, Nat.reduceMul, Int.reduceToNat, Int.reduceAdd, Int.reduceLT, Int.reduceLE, Int.reduceEq, Int.reduceNeg, Int.reduceMul, Int.reduceSub, Nat.reduceSub, reduceIte, ite_true, ite_false, and_true, true_and, and_self, ug_ne, w6, w8, hu4, e1, w5]
    refine ⟨_, rfl, ⟨?_, ?_, ?_, ?_, ?_, ?_, ?_, ?_⟩, ?_, ?_⟩
    · simp (disch := omega) only [ug_ne, ug_k, hf, v0]; rfl
    · simp only [ug_at]; rfl
    · simp (disch := omega) only [ug_ne, ug_k, hf, v7]; rfl
    · intro k hk; simp (disch := omega) only [ug_ne, hf, v1 k hk]; rfl
    · intro k hk; simp (disch := omega) only [ug_ne, hf, v2 k hk]; rfl
    · intro k hk
      simp (disch := omega) only [ug_ne, hg k hk]
      show _ = (if (k : Int) < H 0 0 then max 0 (H 3 k - hungS H k) else H 3 k)
      rw [hn]
    · intro k hk; simp (disch := omega) only [ug_ne, hf, v4 k hk]; rfl
    · intro k hk
      simp (disch := omega) only [ug_ne]
      show _ = (if k = (H 0 1).toNat % 4 then min 99 (H 5 k + g) else H 5 k)
      by_cases hk2 : k = (H 0 1).toNat % 4
      · subst hk2
        rw [if_pos rfl, ug_at]
      · rw [if_neg hk2, ug_k hk2, hf 13 (by omega), v5 k hk]
    · intro a ha
      simp (disch := omega) only [ug_ne, hf]
    · simp (disch := omega) only [ug_ne, ug_k, hf])
  exact ⟨G', by rw [hr, hX] at hS; exact hS, hq⟩
