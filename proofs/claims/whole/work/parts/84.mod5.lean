/-! the model: what is asked goes on and is put back -/
def ks (G H : q_Gi) : Prop := G 82 27 = H 0 1 ∧ G 82 28 = H 0 2 ∧ (∀ k, k < 6 → G 98 k = H 3 k) ∧ (∀ k, k < 4 → G 99 k = H 5 k)
def sameK (H H0 : q_Gi) : Prop := H 0 0 = H0 0 0 ∧ H 1 = H0 1 ∧ H 2 = H0 2 ∧ H 4 = H0 4
theorem sameK_r (H : q_Gi) : sameK H H := ⟨rfl, rfl, rfl, rfl⟩
theorem sameK_t {H H1 H2 : q_Gi} (h1 : sameK H H1) (h2 : sameK H1 H2) : sameK H H2 := ⟨h1.1.trans h2.1, h1.2.1.trans h2.2.1, h1.2.2.1.trans h2.2.2.1, h1.2.2.2.trans h2.2.2.2⟩
theorem sameK_day (g : Int) (H : q_Gi) : sameK (dayS g H) H := ⟨rfl, rfl, rfl, rfl⟩
theorem sameK_days (g : Int) : ∀ (n : Nat) (H : q_Gi), sameK (daysS g n H) H
  | 0, H => sameK_r H
  | n + 1, H => sameK_t (sameK_days g n (dayS g H)) (sameK_day g H)
theorem sameK_eat (cl : List (Int × List Int)) (b e : Nat) (H : q_Gi) : sameK (eatS cl b e H) H := by
  refine ⟨rfl, ?_, ?_, ?_⟩
  all_goals
    funext k
    unfold eatS
    simp
theorem sameK_stroke (H : q_Gi) : sameK (strokeS H) H := ⟨rfl, rfl, rfl, rfl⟩
/-- save's frame -/
def sf (G G' : q_Gi) : Prop := (∀ a, a ≠ 82 → a ≠ 98 → a ≠ 99 → G' a = G a) ∧ ∀ k, k ≠ 26 → k ≠ 27 → k ≠ 28 → G' 82 k = G 82 k
theorem sp160 {d N L : Nat} {B : q_Bv} {G H : q_Gi} (hd : 1 ≤ d) (hv : mv G H) : ∃ G', Sp d 160 [.ref 82] (hp N L B G) none (hp N L B G') ∧ mv G' H ∧ ks G' H ∧ G' 82 26 = 2000000000 ∧ sf G G' := by
  obtain ⟨v0, v1, v2, vk, vv, vf, vr, vs⟩ := hv
  have f0 := vf 0 (by decide)
  have f1 := vf 1 (by decide)
  have f2 := vf 2 (by decide)
  have f3 := vf 3 (by decide)
  have f4 := vf 4 (by decide)
  have f5 := vf 5 (by decide)
  have s0 := vs 0 (by decide)
  have s1 := vs 1 (by decide)
  have s2 := vs 2 (by decide)
  have s3 := vs 3 (by decide)
  obtain ⟨r, X', hS, G', hr, hX, hq⟩ := E160 (d := d) (X := hp N L B G) (Q := fun r X => ∃ G', r = none ∧ X = hp N L B G' ∧ mv G' H ∧ ks G' H ∧ G' 82 26 = 2000000000 ∧ sf G G') (by omega) (by
    simp (disch := omega) only [s160_0, s160_1, m160_4, s160_7, s160_8, m160_9, m160_12, s160_15, s160_16, m160_17, m160_20, s160_23, s160_24, s160_25, s160_26, s160_28, s160_31, m160_32, s160_35, s160_36, m160_37, s160_40, m160_41, m160_42, s160_43, s160_46, s160_49, s160_50, s160_51, s160_52, s160_53, s160_56, m160_57, s160_60, s160_61, m160_62, s160_65, m160_66, m160_67, s160_68, s160_71, s160_74, Int.toNat_natCast, Int.toNat_natCast, Nat.reduceAdd, Nat.reduceMul, Int.reduceToNat, Int.reduceAdd, Int.reduceLT, Int.reduceLE, Int.reduceEq, Int.reduceNeg, Int.reduceMul, Int.reduceSub, Nat.reduceSub, reduceIte, ite_true, ite_false, and_true, true_and, and_self, ug_ne, ug_k, v1, v2, f0, f1, f2, f3, f4, f5, s0, s1, s2, s3]
    refine ⟨_, rfl, ⟨?_, ?_, ?_, ?_, ?_, ?_, ?_, ?_⟩, ⟨?_, ?_, ?_, ?_⟩, ?_, ?_, ?_⟩
    · simp (disch := omega) only [ug_ne, ug_k]; exact v0
    · simp (disch := omega) only [ug_ne, ug_k]; exact v1
    · simp (disch := omega) only [ug_ne, ug_k]; exact v2
    · simp (disch := omega) only [ug_ne, ug_k]; exact vk
    · simp (disch := omega) only [ug_ne, ug_k]; exact vv
    · simp (disch := omega) only [ug_ne, ug_k]; exact vf
    · simp (disch := omega) only [ug_ne, ug_k]; exact vr
    · simp (disch := omega) only [ug_ne, ug_k]; exact vs
    · simp (disch := omega) only [ug_ne, ug_k, ug_at]
    · simp (disch := omega) only [ug_ne, ug_k, ug_at]
    · intro k hk
      have hk' : k = 0 ∨ k = 1 ∨ k = 2 ∨ k = 3 ∨ k = 4 ∨ k = 5 := by omega
      rcases hk' with rfl | rfl | rfl | rfl | rfl | rfl <;> simp (disch := omega) only [ug_ne, ug_k, ug_at]
    · intro k hk
      have hk' : k = 0 ∨ k = 1 ∨ k = 2 ∨ k = 3 := by omega
      rcases hk' with rfl | rfl | rfl | rfl <;> simp (disch := omega) only [ug_ne, ug_k, ug_at]
    · simp (disch := omega) only [ug_ne, ug_k, ug_at]
    · intro a x y z; simp (disch := omega) only [ug_ne]
    · intro k x y z; simp (disch := omega) only [ug_ne, ug_k])
  exact ⟨G', by rw [hr, hX] at hS; exact hS, hq⟩
/-- putBack's frame -/
def pbf (G G' : q_Gi) : Prop := (∀ a, a ≠ 82 → a ≠ 85 → a ≠ 87 → G' a = G a) ∧ ∀ k, k ≠ 1 → k ≠ 2 → k ≠ 26 → G' 82 k = G 82 k
theorem sp161 {d N L : Nat} {B : q_Bv} {G H H0 : q_Gi} (hd : 1 ≤ d) (hv : mv G H) (hs : sameK H H0) (hk : ks G H0) : ∃ G', Sp d 161 [.ref 82] (hp N L B G) none (hp N L B G') ∧ mv G' H0 ∧ G' 82 26 = 99999 ∧ pbf G G' := by
  obtain ⟨v0, v1, v2, vk, vv, vf, vr, vs⟩ := hv
  obtain ⟨e0, e1, e2, e4⟩ := hs
  rw [e0] at v0
  rw [e1] at vk
  rw [e2] at vv
  rw [e4] at vr
  obtain ⟨k1, k2, kf, kst⟩ := hk
  have f0 := kf 0 (by decide)
  have f1 := kf 1 (by decide)
  have f2 := kf 2 (by decide)
  have f3 := kf 3 (by decide)
  have f4 := kf 4 (by decide)
  have f5 := kf 5 (by decide)
  have s0 := kst 0 (by decide)
  have s1 := kst 1 (by decide)
  have s2 := kst 2 (by decide)
  have s3 := kst 3 (by decide)
  obtain ⟨r, X', hS, G', hr, hX, hq⟩ := E161 (d := d) (X := hp N L B G) (Q := fun r X => ∃ G', r = none ∧ X = hp N L B G' ∧ mv G' H0 ∧ G' 82 26 = 99999 ∧ pbf G G') (by omega) (by
    simp (disch := omega) only [s161_0, s161_1, m161_3, s161_6, s161_7, m161_8, m161_11, s161_14, s161_15, m161_16, m161_19, s161_22, s161_23, s161_24, s161_25, s161_27, s161_30, m161_31, s161_34, s161_35, m161_36, s161_39, m161_40, m161_41, s161_42, s161_45, s161_48, s161_49, s161_50, s161_51, s161_52, s161_55, m161_56, s161_59, s161_60, m161_61, s161_64, m161_65, m161_66, s161_67, s161_70, s161_73, Int.toNat_natCast, Int.toNat_natCast, Nat.reduceAdd, Nat.reduceMul, Int.reduceToNat, Int.reduceAdd, Int.reduceLT, Int.reduceLE, Int.reduceEq, Int.reduceNeg, Int.reduceMul, Int.reduceSub, Nat.reduceSub, reduceIte, ite_true, ite_false, and_true, true_and, and_self, ug_ne, ug_k, k1, k2, f0, f1, f2, f3, f4, f5, s0, s1, s2, s3]
    refine ⟨_, rfl, ⟨?_, ?_, ?_, ?_, ?_, ?_, ?_, ?_⟩, ?_, ?_, ?_⟩
    · simp (disch := omega) only [ug_ne, ug_k]; exact v0
    · simp (disch := omega) only [ug_ne, ug_k, ug_at]
    · simp (disch := omega) only [ug_ne, ug_k, ug_at]
    · simp (disch := omega) only [ug_ne, ug_k]; exact vk
    · simp (disch := omega) only [ug_ne, ug_k]; exact vv
    · intro k hk
      have hk' : k = 0 ∨ k = 1 ∨ k = 2 ∨ k = 3 ∨ k = 4 ∨ k = 5 := by omega
      rcases hk' with rfl | rfl | rfl | rfl | rfl | rfl <;> simp (disch := omega) only [ug_ne, ug_k, ug_at]
    · simp (disch := omega) only [ug_ne, ug_k]; exact vr
    · intro k hk
      have hk' : k = 0 ∨ k = 1 ∨ k = 2 ∨ k = 3 := by omega
      rcases hk' with rfl | rfl | rfl | rfl <;> simp (disch := omega) only [ug_ne, ug_k, ug_at]
    · simp (disch := omega) only [ug_ne, ug_k, ug_at]
    · intro a x y z; simp (disch := omega) only [ug_ne]
    · intro k x y z; simp (disch := omega) only [ug_ne, ug_k])
  exact ⟨G', by rw [hr, hX] at hS; exact hS, hq⟩
/-- a call that changes nothing: the model's frame -/
def mq (G G' : q_Gi) : Prop := (∀ a, a ≠ 82 → a ≠ 85 → a ≠ 87 → (a < 97 ∨ 102 < a) → G' a = G a) ∧ ∀ k, k ≠ 1 → k ≠ 2 → k ≠ 26 → k ≠ 27 → k ≠ 28 → G' 82 k = G 82 k
theorem mq_r (G : q_Gi) : mq G G := ⟨fun _ _ _ _ _ => rfl, fun _ _ _ _ _ _ => rfl⟩
theorem mq_t {G G' G'' : q_Gi} (h1 : mq G G') (h2 : mq G' G'') : mq G G'' := ⟨fun a x y z w => (h2.1 a x y z w).trans (h1.1 a x y z w), fun k x y z w u => (h2.2 k x y z w u).trans (h1.2 k x y z w u)⟩
theorem mq_mf {G G' : q_Gi} (h : mf G G') : mq G G' := ⟨fun a x y z w => h.1 a x y z (by omega), fun k x y _ _ _ => h.2 k x y⟩
theorem mq_sf {G G' : q_Gi} (h : sf G G') : mq G G' := ⟨fun a x y z w => h.1 a x (by omega) (by omega), fun k _ _ x y z => h.2 k x y z⟩
theorem mq_pb {G G' : q_Gi} (h : pbf G G') : mq G G' := ⟨fun a x y z _ => h.1 a x y z, fun k x y z _ _ => h.2 k x y z⟩
theorem mq_97 {G G' : q_Gi} (h : ∀ a, a ≠ 97 → G' a = G a) : mq G G' := ⟨fun a _ _ _ w => h a (by omega), fun k _ _ _ _ _ => by rw [h 82 (by omega)]⟩
theorem mq_mu {G G' : q_Gi} {the : Int} {rc : List (Int × Int × List Int)} (h : mq G G') (hm : mu G the rc) : mu G' the rc := mu_f hm (fun a _ _ => h.1 a (by omega) (by omega) (by omega) (by omega))
theorem mq_9 {G G' : q_Gi} {the : Int} (h : mq G G') (h9 : G 82 9 = the) : G' 82 9 = the := by rw [h.2 9 (by omega) (by omega) (by omega) (by omega) (by omega)]; exact h9
theorem ks_f {G G' H : q_Gi} (h : ks G H) (f : mf G G') : ks G' H := by
  obtain ⟨h1, h2, h3, h4⟩ := h
  refine ⟨by rw [f.2 27 (by omega) (by omega)]; exact h1, by rw [f.2 28 (by omega) (by omega)]; exact h2, ?_, ?_⟩
  · rw [f.1 98 (by omega) (by omega) (by omega) (by omega)]; exact h3
  · rw [f.1 99 (by omega) (by omega) (by omega) (by omega)]; exact h4
theorem rcs_ok {G : q_Gi} {the : Int} {rc : List (Int × Int × List Int)} (hm : mu G the rc) : ∀ r, r ∈ rc → rcOK r := by obtain ⟨b0, q1, q2, q3, q4, q5⟩ := hm; exact q5
theorem lp150 {d n N L : Nat} {the : Int} {rc : List (Int × Int × List Int)} {B : q_Bv} {G H : q_Gi} (hd : 3 ≤ d) (hv : mv G H) (ho : Hok H) (h9 : G 82 9 = the) (hm : mu G the rc) (hn : H 0 0 = (n : Int)) : ∀ (k i : Nat), i + k = n → WP d 150 4 [.ref 82, vI (tbS (tunS (lsR 2 rc 9) H) i), vI i] [] (hp N L B G) (fun r1 X1 => r1 = some (vI (tbS (tunS (lsR 2 rc 9) H) n)) ∧ X1 = hp N L B G) := by
  have hn6 : n ≤ 6 := by have := ho.1; omega
  have v0 := hv.1
  rw [hn] at v0
  intro k
  induction k with
  | zero =>
    intro i hi
    obtain rfl : i = n := by omega
    have h1 : ¬ (i : Int) < (i : Int) := by omega
    simp (disch := omega) only [s150_4, s150_5, m150_6, s150_9, s150_36, s150_37, Int.toNat_natCast, Int.toNat_natCast, Nat.reduceAdd, Nat.reduceMul, Int.reduceToNat, Int.reduceAdd, Int.reduceLT, Int.reduceLE, Int.reduceEq, Int.reduceNeg, Int.reduceMul, Int.reduceSub, Nat.reduceSub, reduceIte, ite_true, ite_false, and_true, true_and, and_self, v0, h1]
  | succ k ih =>
    intro i hi
    have h1 : (i : Int) < (n : Int) := by omega
    have h148 := sp148 (d := d) (N := N) (L := L) (B := B) hd hv ho h9 hm (show i < 6 by omega)
    have := ih (i + 1) (by omega)
    rw [show ((i + 1 : Nat) : Int) = (i : Int) + 1 from rfl] at this
    rw [s150_4]
    rw [show tbS (tunS (lsR 2 rc 9) H) (i + 1) = ior (tbS (tunS (lsR 2 rc 9) H) i) (if tunS (lsR 2 rc 9) H i = true then ishl 1 i else 0) from rfl] at this
    by_cases c : tunS (lsR 2 rc 9) H i = true
    · rw [if_pos c] at this
      rw [bI_t c] at h148
      simp (disch := omega) only [s150_5, m150_6, s150_9, s150_12, s150_13, s150_14, s150_18, s150_18b, s150_21, s150_22, s150_23, s150_24, s150_27, s150_28, s150_29, s150_30, s150_33, Int.toNat_natCast, Int.toNat_natCast, Nat.reduceAdd, Nat.reduceMul, Int.reduceToNat, Int.reduceAdd, Int.reduceLT, Int.reduceLE, Int.reduceEq, Int.reduceNeg, Int.reduceMul, Int.reduceSub, Nat.reduceSub, reduceIte, ite_true, ite_false, and_true, true_and, and_self, v0, h1, m150_15 h148]
      exact this
    · rw [if_neg c] at this
      rw [bI_f c] at h148
      simp (disch := omega) only [s150_5, m150_6, s150_9, s150_12, s150_13, s150_14, s150_18, s150_18b, s150_21, s150_22, s150_23, s150_24, s150_27, s150_28, s150_29, s150_30, s150_33, Int.toNat_natCast, Int.toNat_natCast, Nat.reduceAdd, Nat.reduceMul, Int.reduceToNat, Int.reduceAdd, Int.reduceLT, Int.reduceLE, Int.reduceEq, Int.reduceNeg, Int.reduceMul, Int.reduceSub, Nat.reduceSub, reduceIte, ite_true, ite_false, and_true, true_and, and_self, v0, h1, m150_15 h148]
      exact this
theorem sp150 {d N L : Nat} {the : Int} {rc : List (Int × Int × List Int)} {B : q_Bv} {G H : q_Gi} (hd : 4 ≤ d) (hv : mv G H) (ho : Hok H) (h9 : G 82 9 = the) (hm : mu G the rc) : Sp d 150 [.ref 82] (hp N L B G) (some (vI (tbS (tunS (lsR 2 rc 9) H) (H 0 0).toNat))) (hp N L B G) := by
  obtain ⟨n, hn⟩ : ∃ n : Nat, H 0 0 = (n : Int) := ⟨(H 0 0).toNat, by have := ho.1; omega⟩
  rw [hn, Int.toNat_natCast]
  refine e150 (by omega) ?_
  simp (disch := omega) only [s150_0, s150_1, s150_2, s150_3, Int.toNat_natCast, Int.toNat_natCast, Nat.reduceAdd, Nat.reduceMul, Int.reduceToNat, Int.reduceAdd, Int.reduceLT, Int.reduceLE, Int.reduceEq, Int.reduceNeg, Int.reduceMul, Int.reduceSub, Nat.reduceSub, reduceIte, ite_true, ite_false, and_true, true_and, and_self]
  exact lp150 (d := d - 1) (by omega) hv ho h9 hm hn n 0 (by omega)
theorem pc_step : ∀ S : Nat, S < 64 → S ≠ 0 → pcN (S &&& (S - 1)) + 1 = pcN S ∧ S &&& (S - 1) < S := by decide
theorem lp151 {d : Nat} {x : Int} {X : q_H} : ∀ (m S k : Nat), S ≤ m → S < 64 → k + pcN S ≤ 100 → WP d 151 4 [.ref 82, vI x, vI k, vI S] [] X (fun r1 X1 => r1 = some (vI ((k + pcN S : Nat) : Int)) ∧ X1 = X) := by
  intro m
  induction m with
  | zero =>
    intro S k h1 h2 h3
    obtain rfl : S = 0 := by omega
    rw [show k + pcN 0 = k from rfl]
    simp (disch := omega) only [s151_4, s151_5, s151_5b, s151_8, s151_11, s151_12, s151_13, s151_14, s151_15, s151_16, s151_17, s151_20, s151_21, Int.toNat_natCast, Int.toNat_natCast, Nat.reduceAdd, Nat.reduceMul, Int.reduceToNat, Int.reduceAdd, Int.reduceLT, Int.reduceLE, Int.reduceEq, Int.reduceNeg, Int.reduceMul, Int.reduceSub, Nat.reduceSub, reduceIte, ite_true, ite_false, and_true, true_and, and_self, show ((0 : Nat) : Int) = 0 from rfl]
  | succ m ih =>
    intro S k h1 h2 h3
    by_cases h0 : S = 0
    · subst h0
      rw [show k + pcN 0 = k from rfl]
      simp (disch := omega) only [s151_4, s151_5, s151_5b, s151_8, s151_11, s151_12, s151_13, s151_14, s151_15, s151_16, s151_17, s151_20, s151_21, Int.toNat_natCast, Int.toNat_natCast, Nat.reduceAdd, Nat.reduceMul, Int.reduceToNat, Int.reduceAdd, Int.reduceLT, Int.reduceLE, Int.reduceEq, Int.reduceNeg, Int.reduceMul, Int.reduceSub, Nat.reduceSub, reduceIte, ite_true, ite_false, and_true, true_and, and_self, show ((0 : Nat) : Int) = 0 from rfl]
    · have hp := pc_step S h2 h0
      have e1 : (S : Int) - 1 = ((S - 1 : Nat) : Int) := by omega
      have e2 : iand (S : Int) ((S - 1 : Nat) : Int) = ((S &&& (S - 1) : Nat) : Int) := iand_n (by omega) (by omega)
      have h4 : ¬ (S : Int) = 0 := by omega
      have := ih (S &&& (S - 1)) (k + 1) (by omega) (by omega) (by omega)
      rw [show k + 1 + pcN (S &&& (S - 1)) = k + pcN S by omega] at this
      rw [s151_4]
      simp (disch := omega) only [s151_5, s151_5b, s151_8, s151_11, s151_12, s151_13, s151_14, s151_15, s151_16, s151_17, Int.toNat_natCast, Int.toNat_natCast, Nat.reduceAdd, Nat.reduceMul, Int.reduceToNat, Int.reduceAdd, Int.reduceLT, Int.reduceLE, Int.reduceEq, Int.reduceNeg, Int.reduceMul, Int.reduceSub, Nat.reduceSub, reduceIte, ite_true, ite_false, and_true, true_and, and_self, h4, e1, e2]
      exact this
theorem sp151 {d S : Nat} {X : q_H} (hd : 1 ≤ d) (hS : S < 64) : Sp d 151 [.ref 82, vI S] X (some (vI (bcS S))) X := by
  rw [bc_pc S hS]
  have hp := pc_le 6 (by decide) S hS hS
  refine e151 (by omega) ?_
  simp (disch := omega) only [s151_0, s151_1, s151_2, s151_3, Int.toNat_natCast, Int.toNat_natCast, Nat.reduceAdd, Nat.reduceMul, Int.reduceToNat, Int.reduceAdd, Int.reduceLT, Int.reduceLE, Int.reduceEq, Int.reduceNeg, Int.reduceMul, Int.reduceSub, Nat.reduceSub, reduceIte, ite_true, ite_false, and_true, true_and, and_self]
  have := lp151 (d := d - 1) (x := (S : Int)) (X := X) S S 0 (Nat.le_refl _) hS (by omega)
  rw [Nat.zero_add] at this
  exact this
theorem sp151t {d : Nat} {t : Int} {H : q_Gi} {X : q_H} (hd : 1 ≤ d) (ho : Hok H) : Sp d 151 [.ref 82, vI (tbS (tunS t H) (H 0 0).toNat)] X (some (vI (cntS t H))) X := by
  obtain ⟨m, e, h⟩ := tbS_r (tunS t H) (H 0 0).toNat (by have := ho.1; omega)
  have : m < 64 := Nat.lt_of_lt_of_le h (Nat.pow_le_pow_right (n := 2) (by decide) (show (H 0 0).toNat ≤ 6 by have := ho.1; omega))
  unfold cntS
  rw [e]
  exact sp151 hd this
