/-! the model: eating, days, strokes -/
def clOK (cl : List (Int × List Int)) : Prop := cl.length ≤ 10 ∧ ∀ c, c ∈ cl → (-99 ≤ c.1 ∧ c.1 ≤ 99) ∧ okS c.2 0
theorem clR_k {G : q_Gi} {the : Int} {rc : List (Int × Int × List Int)} (hm : mu G the rc) : clOK (clR rc) := by
  obtain ⟨b0, q1, q2, q3, q4, q5⟩ := hm
  exact ⟨by have := clR_l rc; omega, clR_ok rc q5⟩
theorem fillS_r {cl : List (Int × List Int)} {H : q_Gi} {b e : Nat} {f : Int} (hc : clOK cl) (ho : Hok H) (hb : b < 6) (he : e < 4) : 0 ≤ fillS cl H b e f ∧ fillS cl H b e f ≤ 3000 := by
  have hl := @liking_r (envS b e (H 1 b) (H 2 b) (f / 10) (H 0 1 % 10)) cl (5 * ((e : Int) + 1)) hc.1 hc.2 (by omega)
  have k2 := ho.2.2.1 b hb
  unfold fillS fillsS
  generalize likingS (envS b e (H 1 b) (H 2 b) (f / 10) (H 0 1 % 10)) (5 * ((e : Int) + 1)) cl = z at hl ⊢
  repeat' split
  all_goals omega
theorem eatS_k {cl : List (Int × List Int)} {b e : Nat} {H : q_Gi} (hc : clOK cl) (ho : Hok H) (hb : b < 6) (he : e < 4) (hs : 0 < H 5 e) (hn : H 0 2 < 200000) : Hok (eatS cl b e H) := by
  have hf := fillS_r (f := H 3 b) hc ho hb he
  obtain ⟨h0, h1, h2, h3, h4, h5, h6, h7⟩ := ho
  have hb3 := h3 b hb
  refine ⟨h0, h1, h2, fun k hk => ?_, h4, fun k hk => ?_, h6, ?_⟩
  · have := h3 k hk
    have e1 : eatS cl b e H 3 k = if k = b then min 99 (H 3 b + fillS cl H b e (H 3 b)) else H 3 k := by unfold eatS; simp
    rw [e1]
    split <;> omega
  · have := h5 k hk
    have e1 : eatS cl b e H 5 k = if k = e then H 5 e - 1 else H 5 k := by unfold eatS; simp
    rw [e1]
    split
    · rename_i hke; subst hke; omega
    · omega
  · show 0 ≤ H 0 2 + 1 ∧ H 0 2 + 1 ≤ 200000
    omega
/-- what the model's hill moves leave -/
def mf (G G' : q_Gi) : Prop := (∀ a, a ≠ 82 → a ≠ 85 → a ≠ 87 → a ≠ 97 → G' a = G a) ∧ ∀ k, k ≠ 1 → k ≠ 2 → G' 82 k = G 82 k
theorem mf_r (G : q_Gi) : mf G G := ⟨fun _ _ _ _ _ => rfl, fun _ _ _ => rfl⟩
theorem mf_t {G G' G'' : q_Gi} (h1 : mf G G') (h2 : mf G' G'') : mf G G'' := ⟨fun a x y z w => (h2.1 a x y z w).trans (h1.1 a x y z w), fun k x y => (h2.2 k x y).trans (h1.2 k x y)⟩
theorem mf_mu {G G' : q_Gi} {the : Int} {rc : List (Int × Int × List Int)} (h : mf G G') (hm : mu G the rc) : mu G' the rc := mu_f hm (fun a _ _ => h.1 a (by omega) (by omega) (by omega) (by omega))
theorem mf_9 {G G' : q_Gi} {the : Int} (h : mf G G') (h9 : G 82 9 = the) : G' 82 9 = the := by rw [h.2 9 (by omega) (by omega)]; exact h9
/-- the model's eating: M is as far as it counts -/
def eatM (M : Int) (cl : List (Int × List Int)) (b e : Nat) (H : q_Gi) : q_Gi := setS (eatS cl b e H) 0 2 (if H 0 2 < M then H 0 2 + 1 else M)
theorem eatM_s {M : Int} {cl : List (Int × List Int)} {b e : Nat} {H : q_Gi} (h : H 0 2 < M) : eatM M cl b e H = eatS cl b e H := by
  unfold eatM
  rw [if_pos h]
  funext f k
  unfold setS
  by_cases c : f = 0 ∧ k = 2
  · rw [if_pos c, c.1, c.2]; rfl
  · rw [if_neg c]
theorem sp153 {d b e N L : Nat} {the M : Int} {rc : List (Int × Int × List Int)} {B : q_Bv} {G H : q_Gi} (hd : 5 ≤ d) (hv : mv G H) (ho : Hok H) (hb : b < 6) (he : e < 4) (h9 : G 82 9 = the) (hm : mu G the rc) (hM : G 82 26 = M) (hM2 : 0 ≤ M ∧ M ≤ 2000000000) (hst : 0 < H 5 e) : ∃ G', Sp d 153 [.ref 82, vI b, vI e] (hp N L B G) none (hp N L B G') ∧ mv G' (eatM M (clR rc) b e H) ∧ mf G G' := by
  have hv0 := hv
  obtain ⟨v0, v1, v2, vk, vv, vf, vr, vs⟩ := hv
  have k3 := ho.2.2.2.1 b hb
  have k5 := ho.2.2.2.2.2.1 e he
  have k7 := ho.2.2.2.2.2.2.2
  have kf := fillS_r (f := H 3 b) (clR_k hm) ho hb he
  -- fills is asked with the store taken
  have hva : mv (ug G 87 e (H 5 e - 1)) (setS H 5 e (H 5 e - 1)) := by
    refine ⟨by rw [ug_ne (by omega), setS_ne (by omega)]; exact v0, by rw [ug_ne (by omega), setS_ne (by omega)]; exact v1, by rw [ug_ne (by omega), setS_ne (by omega)]; exact v2, by rw [ug_ne (by omega), setS_ne (by omega)]; exact vk, by rw [ug_ne (by omega), setS_ne (by omega)]; exact vv, by rw [ug_ne (by omega), setS_ne (by omega)]; exact vf, by rw [ug_ne (by omega), setS_ne (by omega)]; exact vr, fun k hk => ?_⟩
    by_cases c : k = e
    · rw [c, ug_at, setS_at]
    · rw [ug_k c, setS_k c]; exact vs k hk
  have hoa : Hok (setS H 5 e (H 5 e - 1)) := by
    obtain ⟨h0, h1, h2, h3, h4, h5, h6, h7⟩ := ho
    refine ⟨by rw [setS_ne (by omega)]; exact h0, by rw [setS_ne (by omega)]; exact h1, by rw [setS_ne (by omega)]; exact h2, by rw [setS_ne (by omega)]; exact h3, by rw [setS_ne (by omega)]; exact h4, fun k hk => ?_, by rw [setS_ne (by omega)]; exact h6, by rw [setS_ne (by omega)]; exact h7⟩
    by_cases c : k = e
    · rw [c, setS_at]; omega
    · rw [setS_k c]; exact h5 k hk
  obtain ⟨G1, h144, f1⟩ := sp144 (d := d - 1) (N := N) (L := L) (B := B) (the := the) (rc := rc) (by omega) hva hoa hb he (by rw [ug_ne (by omega)]; exact h9) (mu_f hm (fun a _ _ => ug_ne (by omega)))
  have ef : fillS (clR rc) (setS H 5 e (H 5 e - 1)) b e (setS H 5 e (H 5 e - 1) 3 b) = fillS (clR rc) H b e (H 3 b) := by
    unfold fillS
    rw [setS_ne (by omega), setS_ne (by omega), setS_ne (by omega), setS_ne (by omega)]
  rw [ef] at h144
  have g82 : ∀ k, G1 82 k = G 82 k := fun k => by rw [f1 82 (by omega), ug_ne (by omega)]
  have g85 : ∀ k, G1 85 k = G 85 k := fun k => by rw [f1 85 (by omega), ug_ne (by omega)]
  generalize hz : fillS (clR rc) H b e (H 3 b) = z at h144 kf
  have h112 := sp112 (d := d - 1) (z := H 3 b + z) (X := hp N L B G1) (by omega) (by omega)
  have key : ∃ z2, z2 = (if H 0 2 < M then H 0 2 + 1 else M) := ⟨_, rfl⟩
  obtain ⟨z2, hz2⟩ := key
  refine ⟨ug (ug G1 85 b (min 99 (H 3 b + z))) 82 2 z2, ?_, ?_, ?_⟩
  · refine e153 (by omega) ?_
    by_cases c : H 0 2 < M
    · rw [if_pos c] at hz2
      simp (disch := omega) only [s153_0, m153_1, s153_4, s153_5, m153_6, s153_7, s153_8, m153_9, s153_10, m153_11, s153_14, s153_15, s153_16, m153_17, s153_20, m153_21, s153_22, s153_23, s153_24, s153_28, m153_32, s153_33, s153_34, m153_35, s153_38, m153_39, s153_42, s153_45, m153_46, s153_49, s153_50, s153_51, s153_54, m153_55, m153_58, s153_61, Int.toNat_natCast, Int.toNat_natCast, Nat.reduceAdd, Nat.reduceMul, Int.reduceToNat, Int.reduceAdd, Int.reduceLT, Int.reduceLE, Int.reduceEq, Int.reduceNeg, Int.reduceMul, Int.reduceSub, Nat.reduceSub, reduceIte, ite_true, ite_false, and_true, true_and, and_self, vs e he, m153_25 h144, ug_ne, vf b hb, m153_29 h112, g82, v2, hM, c, hz2]
    · rw [if_neg c] at hz2
      simp (disch := omega) only [s153_0, m153_1, s153_4, s153_5, m153_6, s153_7, s153_8, m153_9, s153_10, m153_11, s153_14, s153_15, s153_16, m153_17, s153_20, m153_21, s153_22, s153_23, s153_24, s153_28, m153_32, s153_33, s153_34, m153_35, s153_38, m153_39, s153_42, s153_45, m153_46, s153_49, s153_50, s153_51, s153_54, m153_55, m153_58, s153_61, Int.toNat_natCast, Int.toNat_natCast, Nat.reduceAdd, Nat.reduceMul, Int.reduceToNat, Int.reduceAdd, Int.reduceLT, Int.reduceLE, Int.reduceEq, Int.reduceNeg, Int.reduceMul, Int.reduceSub, Nat.reduceSub, reduceIte, ite_true, ite_false, and_true, true_and, and_self, vs e he, m153_25 h144, ug_ne, vf b hb, m153_29 h112, g82, v2, hM, c, hz2]
  · unfold eatM
    rw [← hz2]
    refine ⟨?_, ?_, ?_, ?_, ?_, ?_, ?_, ?_⟩
    · rw [ug_k (by omega), ug_ne (by omega), g82, setS_k (by omega)]; exact v0
    · rw [ug_k (by omega), ug_ne (by omega), g82, setS_k (by omega)]; exact v1
    · rw [ug_at, setS_at]
    · intro k hk; rw [ug_ne (by omega), ug_ne (by omega), f1 83 (by omega), ug_ne (by omega), setS_ne (by omega)]; exact vk k hk
    · intro k hk; rw [ug_ne (by omega), ug_ne (by omega), f1 84 (by omega), ug_ne (by omega), setS_ne (by omega)]; exact vv k hk
    · intro k hk
      rw [ug_ne (by omega), setS_ne (by omega)]
      have e3 : eatS (clR rc) b e H 3 k = if k = b then min 99 (H 3 b + fillS (clR rc) H b e (H 3 b)) else H 3 k := by unfold eatS; simp
      rw [e3, hz]
      by_cases c : k = b
      · rw [c, ug_at, if_pos rfl]
      · rw [ug_k c, if_neg c, g85]; exact vf k hk
    · intro k hk; rw [ug_ne (by omega), ug_ne (by omega), f1 86 (by omega), ug_ne (by omega), setS_ne (by omega)]; exact vr k hk
    · intro k hk
      rw [ug_ne (by omega), ug_ne (by omega), f1 87 (by omega), setS_ne (by omega)]
      have e5 : eatS (clR rc) b e H 5 k = if k = e then H 5 e - 1 else H 5 k := by unfold eatS; simp
      rw [e5]
      by_cases c : k = e
      · rw [c, ug_at, if_pos rfl]
      · rw [ug_k c, if_neg c]; exact vs k hk
  · refine ⟨fun a x y w u => by rw [ug_ne x, ug_ne y, f1 a u, ug_ne w], fun k x y => by rw [ug_k y, ug_ne (by omega), g82]⟩
theorem lp155 {d N L n : Nat} {B : q_Bv} {G H : q_Gi} {Q : Option Value → q_H → Prop} (hd : 1 ≤ d) (hv : mv G H) (ho : Hok H) (hn : H 0 0 = (n : Int)) (hQ : ∀ G' : q_Gi, (∀ a, a ≠ 85 → G' a = G a) → (∀ j : Nat, j < 6 → G' 85 j = if (j : Int) < (n : Int) then max 0 (H 3 j - hungS H j) else H 3 j) → WP d 155 38 [.ref 82, vI n] [] (hp N L B G') Q) : ∀ (k i : Nat) (G' : q_Gi), i + k = n → (∀ a, a ≠ 85 → G' a = G a) → (∀ j : Nat, j < 6 → G' 85 j = if j < i then max 0 (H 3 j - hungS H j) else H 3 j) → WP d 155 2 [.ref 82, vI i] [] (hp N L B G') Q := by
  intro k
  have hv0 := hv
  obtain ⟨v0, v1, v2, vk, vv, vf, vr, vs⟩ := hv
  have hn6 : n ≤ 6 := by have := ho.1; omega
  induction k with
  | zero =>
    intro i G' hi hf hg
    have hi2 : i = n := by omega
    subst hi2
    have h0 : G' 82 0 = (i : Int) := by rw [hf 82 (by omega), v0, hn]
    have hlt : ¬ ((i : Int) < (i : Int)) := by omega
    have := hQ G' hf (fun j hj => by rw [hg j hj]; simp only [Int.ofNat_lt])
    simp (disch := omega) only [s155_2, s155_3, m155_4, s155_7, Int.toNat_natCast, Int.toNat_natCast, Nat.reduceAdd, Nat.reduceMul, Int.reduceToNat, Int.reduceAdd, Int.reduceLT, Int.reduceLE, Int.reduceEq, Int.reduceNeg, Int.reduceMul, Int.reduceSub, Nat.reduceSub, reduceIte, ite_true, ite_false, and_true, true_and, and_self, h0, hlt]
    exact this
  | succ k ih =>
    intro i G' hi hf hg
    have hi6 : i < 6 := by omega
    have h0 : G' 82 0 = (n : Int) := by rw [hf 82 (by omega), v0, hn]
    have hlt : (i : Int) < (n : Int) := by omega
    -- hunger knows nothing of how full
    have hh : Sp d 145 [.ref 82, vI i] (hp N L B G') (some (vI (hungS H i))) (hp N L B G') := by
      have hv' : mv G' (fun f k => if f = 3 ∧ k < 6 then G' 85 k else H f k) := by
        refine ⟨by rw [hf 82 (by omega)]; exact v0, by rw [hf 82 (by omega)]; exact v1, by rw [hf 82 (by omega)]; exact v2, fun k hk => by rw [hf 83 (by omega)]; exact vk k hk, fun k hk => by rw [hf 84 (by omega)]; exact vv k hk, fun k hk => ?_, fun k hk => by rw [hf 86 (by omega)]; exact vr k hk, fun k hk => by rw [hf 87 (by omega)]; exact vs k hk⟩
        show G' 85 k = if 3 = 3 ∧ k < 6 then G' 85 k else H 3 k
        rw [if_pos ⟨rfl, hk⟩]
      have ho' : Hok (fun f k => if f = 3 ∧ k < 6 then G' 85 k else H f k) := by
        obtain ⟨h0, h1, h2, h3, h4, h5, h6, h7⟩ := ho
        refine ⟨h0, h1, h2, fun b hb => ?_, h4, h5, h6, h7⟩
        show 0 ≤ (if 3 = 3 ∧ b < 6 then G' 85 b else H 3 b) ∧ (if 3 = 3 ∧ b < 6 then G' 85 b else H 3 b) ≤ 99
        rw [if_pos ⟨rfl, hb⟩, hg b hb]
        have := h3 b hb
        have := hungS_r ⟨h0, h1, h2, h3, h4, h5, h6, h7⟩ hb
        split <;> omega
      have hx := sp145 (d := d) (N := N) (L := L) (B := B) (H := fun f k => if f = 3 ∧ k < 6 then G' 85 k else H f k) hd hv' ho' hi6
      have ex : hungS (fun f k => if f = 3 ∧ k < 6 then G' 85 k else H f k) i = hungS H i := rfl
      rw [ex] at hx
      exact hx
    have hr := hungS_r ho hi6
    have hgi := hg i hi6
    rw [if_neg (by omega)] at hgi
    have hfi := ho.2.2.2.1 i hi6
    have h111 := sp111 (d := d) (z := H 3 i - hungS H i) (X := hp N L B G') hd (by omega)
    have := ih (i + 1) (ug G' 85 i (max 0 (H 3 i - hungS H i))) (by omega) (fun a ha => by rw [ug_ne ha]; exact hf a ha) (fun j hj => by
      rw [ug_b]
      by_cases hji : j = i
      · subst hji
        simp
      · rw [if_neg (by omega), hg j hj]
        by_cases hj2 : j < i
        · rw [if_pos hj2, if_pos (by omega)]
        · rw [if_neg hj2, if_neg (by omega)])
    rw [show ((i + 1 : Nat) : Int) = (i : Int) + 1 from rfl] at this
    rw [s155_2]
    simp (disch := first | omega | assumption) only [s155_3, m155_4, s155_7, s155_10, m155_11, s155_14, s155_15, s155_16, m155_17, s155_20, m155_21, s155_22, s155_23, s155_27, m155_31, s155_32, s155_35, Int.toNat_natCast, Int.toNat_natCast, Nat.reduceAdd, Nat.reduceMul, Int.reduceToNat, Int.reduceAdd, Int.reduceLT, Int.reduceLE, Int.reduceEq, Int.reduceNeg, Int.reduceMul, Int.reduceSub, Nat.reduceSub, reduceIte, ite_true, ite_false, and_true, true_and, and_self, h0, hlt, m155_24 hh, hgi, m155_28 h111]
    exact this
theorem sp155 {d N L : Nat} {the : Int} {rc : List (Int × Int × List Int)} {B : q_Bv} {G H : q_Gi} (hd : 3 ≤ d) (hv : mv G H) (ho : Hok H) (h9 : G 82 9 = the) (hm : mu G the rc) : ∃ G', Sp d 155 [.ref 82] (hp N L B G) none (hp N L B G') ∧ mv G' (dayS (lsR 3 rc 0) H) ∧ mf G G' := by
  have hv0 := hv
  obtain ⟨v0, v1, v2, vk, vv, vf, vr, vs⟩ := hv
  obtain ⟨n, hn⟩ : ∃ n : Nat, H 0 0 = (n : Int) := ⟨(H 0 0).toNat, by have := ho.1; omega⟩
  have h61 := ho.2.2.2.2.2.2.1
  have kl := lsR_r (w := 3) rc 0 (by obtain ⟨b0, q1, q2, q3, q4, q5⟩ := hm; exact q5) (by omega)
  have hm5 := ho.2.2.2.2.2.1 ((H 0 1).toNat % 4) (by omega)
  have e1 : (H 0 1 % 4).toNat = (H 0 1).toNat % 4 := by omega
  obtain ⟨r, X', hS, G', hr, hX, hq⟩ := E155 (d := d) (X := hp N L B G) (Q := fun r X => ∃ G', r = none ∧ X = hp N L B G' ∧ mv G' (dayS (lsR 3 rc 0) H) ∧ mf G G') (by omega) (by
    simp only [s155_0, s155_1, Int.toNat_natCast, Int.toNat_natCast, Nat.reduceAdd, Nat.reduceMul, Int.reduceToNat, Int.reduceAdd, Int.reduceLT, Int.reduceLE, Int.reduceEq, Int.reduceNeg, Int.reduceMul, Int.reduceSub, Nat.reduceSub, reduceIte, ite_true, ite_false, and_true, true_and, and_self]
    refine lp155 (by omega) hv0 ho hn (fun G' hf hg => ?_) n 0 G (by omega) (fun _ _ => rfl) (fun j hj => by rw [if_neg (by omega)]; exact vf j hj)
    have w1 : G' 82 1 = H 0 1 := by rw [hf 82 (by omega), v1]
    have w5 : G' 87 ((H 0 1).toNat % 4) = H 5 ((H 0 1).toNat % 4) := by rw [hf 87 (by omega), vs _ (by omega)]
    have h140 := sp140 (d := d - 1) (N := N) (L := L) (B := B) (G := G') (w := 3) (n := 0) (by omega) (by rw [hf 82 (by omega)]; exact h9) (mu_f hm (fun a _ _ => hf a (by omega))) (by omega)
    have h112 := sp112 (d := d - 1) (z := H 5 ((H 0 1).toNat % 4) + lsR 3 rc 0) (X := hp N L B G') (by omega) (by omega)
    generalize lsR 3 rc 0 = g at kl h140 h112
    simp (disch := first | omega | assumption) only [s155_38, m155_39, s155_42, m155_43, s155_46, s155_47, s155_48, s155_49, m155_50, s155_53, m155_54, s155_57, s155_58, m155_59, s155_60, s155_61, s155_62, s155_66, m155_70, s155_71, s155_72, m155_73, s155_76, s155_77, m155_78, s155_81, Int.toNat_natCast, Int.toNat_natCast, Nat.reduceAdd, Nat.reduceMul, Int.reduceToNat, Int.reduceAdd, Int.reduceLT, Int.reduceLE, Int.reduceEq, Int.reduceNeg, Int.reduceMul, Int.reduceSub, Nat.reduceSub, reduceIte, ite_true, ite_false, and_true, true_and, and_self, ug_ne, w1, e1, w5, m155_63 h140, m155_67 h112]
    refine ⟨_, rfl, ⟨?_, ?_, ?_, ?_, ?_, ?_, ?_, ?_⟩, ?_, ?_⟩
    · simp (disch := omega) only [ug_ne, ug_k, hf, v0]; rfl
    · simp only [ug_at]; rfl
    · simp (disch := omega) only [ug_ne, ug_k, hf, v2]; rfl
    · intro k hk; simp (disch := omega) only [ug_ne, hf, vk k hk]; rfl
    · intro k hk; simp (disch := omega) only [ug_ne, hf, vv k hk]; rfl
    · intro k hk
      simp (disch := omega) only [ug_ne, hg k hk]
      show _ = (if (k : Int) < H 0 0 then max 0 (H 3 k - hungS H k) else H 3 k)
      rw [hn]
    · intro k hk; simp (disch := omega) only [ug_ne, hf, vr k hk]; rfl
    · intro k hk
      simp (disch := omega) only [ug_ne]
      show _ = (if k = (H 0 1).toNat % 4 then min 99 (H 5 k + g) else H 5 k)
      by_cases hk2 : k = (H 0 1).toNat % 4
      · subst hk2
        rw [if_pos rfl, ug_at]
      · rw [if_neg hk2, ug_k hk2, hf 87 (by omega), vs k hk]
    · intro a x y z w
      simp (disch := omega) only [ug_ne, hf]
    · intro k x y
      simp (disch := omega) only [ug_ne, ug_k, hf])
  exact ⟨G', by rw [hr, hX] at hS; exact hS, hq⟩
theorem lp156 {d N L : Nat} {the z : Int} {rc : List (Int × Int × List Int)} {B : q_Bv} (hd : 3 ≤ d) {Q : Option Value → q_H → Prop} {G0 : q_Gi} (hm0 : mu G0 the rc) (h90 : G0 82 9 = the) : ∀ (m k : Nat) (G H : q_Gi), ((k : Int) + m = z) → z ≤ 1000 → mv G H → Hok H → H 0 1 + (m : Int) ≤ 20000 → mf G0 G → (∀ G', mv G' (daysS (lsR 3 rc 0) m H) → mf G0 G' → Q none (hp N L B G')) → WP d 156 2 [.ref 82, vI z, vI k] [] (hp N L B G) Q := by
  intro m
  induction m with
  | zero =>
    intro k G H hk hz hv ho hday hfr hQ
    have h1 : ¬ (k : Int) < z := by omega
    simp (disch := omega) only [s156_2, s156_3, s156_4, s156_17, Int.toNat_natCast, Int.toNat_natCast, Nat.reduceAdd, Nat.reduceMul, Int.reduceToNat, Int.reduceAdd, Int.reduceLT, Int.reduceLE, Int.reduceEq, Int.reduceNeg, Int.reduceMul, Int.reduceSub, Nat.reduceSub, reduceIte, ite_true, ite_false, and_true, true_and, and_self, h1]
    exact hQ G hv hfr
  | succ m ih =>
    intro k G H hk hz hv ho hday hfr hQ
    have h1 : (k : Int) < z := by omega
    obtain ⟨G1, h155, v1, f1⟩ := sp155 (d := d) (N := N) (L := L) (B := B) hd hv ho (mf_9 hfr h90) (mf_mu hfr hm0)
    have kl := lsR_r (w := 3) rc 0 (by obtain ⟨b0, q1, q2, q3, q4, q5⟩ := hm0; exact q5) (by omega)
    have hok := dayS_ok kl ho (by omega)
    have hd1 : dayS (lsR 3 rc 0) H 0 1 = H 0 1 + 1 := rfl
    have := ih (k + 1) G1 _ (by omega) hz v1 hok (by rw [hd1]; omega) (mf_t hfr f1) hQ
    rw [s156_2]
    simp (disch := omega) only [s156_3, s156_4, s156_7, s156_11, s156_14, Int.toNat_natCast, Int.toNat_natCast, Nat.reduceAdd, Nat.reduceMul, Int.reduceToNat, Int.reduceAdd, Int.reduceLT, Int.reduceLE, Int.reduceEq, Int.reduceNeg, Int.reduceMul, Int.reduceSub, Nat.reduceSub, reduceIte, ite_true, ite_false, and_true, true_and, and_self, h1, m156_8 h155]
    exact this
