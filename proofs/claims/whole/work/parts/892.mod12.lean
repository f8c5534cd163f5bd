/-! the model: towers, what was seen -/
theorem bitS_m {S b : Nat} (hS : S < 64) (hb : b < 6) : bitS (S : Int) b = ((S / 2 ^ b % 2 : Nat) : Int) := bit_t hS hb
theorem lp174i {d n S N L : Nat} {fo le : Int} {B : q_Bv} {G H : q_Gi} (hd : 1 ≤ d) (hv : mv G H) (ho : Hok H) (hn : H 0 0 = (n : Int)) (hS : S < 64) {Q : Option Value → q_H → Prop} : ∀ (m k : Nat), k + m = n → WP d 174 71 [.ref 82, vI fo, vI le, vI S, vI (apS (H 2) S n), vI n] [] (hp N L B G) Q → WP d 174 23 [.ref 82, vI fo, vI le, vI S, vI (apS (H 2) S k), vI k] [] (hp N L B G) Q := by
  have hn6 : n ≤ 6 := by have := ho.1; omega
  have v0 := hv.1
  rw [hn] at v0
  intro m
  induction m with
  | zero =>
    intro k hk hR
    obtain rfl : k = n := by omega
    have h1 : ¬ (k : Int) < (k : Int) := by omega
    simp (disch := omega) only [s174_23, s174_25, m174_26, s174_29, Int.toNat_natCast, Int.toNat_natCast, Nat.reduceAdd, Nat.reduceMul, Int.reduceToNat, Int.reduceAdd, Int.reduceLT, Int.reduceLE, Int.reduceEq, Int.reduceNeg, Int.reduceMul, Int.reduceSub, Nat.reduceSub, reduceIte, ite_true, ite_false, and_true, true_and, and_self, v0, h1]
    exact hR
  | succ m ih =>
    intro k hk hR
    have h1 : (k : Int) < (n : Int) := by omega
    have hk6 : k < 6 := by omega
    have vv := hv.2.2.2.2.1 k hk6
    have h110 := sp110 (d := d) (S := S) (b := k) (X := hp N L B G) hd hS hk6
    have e0 : apS (H 2) (S : Int) (k + 1) = apS (H 2) (S : Int) k + (if bitS (S : Int) k = 1 then H 2 k else -(H 2 k)) := rfl
    have := ih (k + 1) (by omega) hR
    rw [e0, bitS_m hS hk6, show ((k + 1 : Nat) : Int) = (k : Int) + 1 from rfl] at this
    rw [s174_23]
    by_cases c : S / 2 ^ k % 2 = 1
    · rw [if_pos (by omega)] at this
      rw [bI_t c] at h110
      simp (disch := omega) only [s174_25, m174_26, s174_29, s174_32, s174_34, s174_35, s174_36, s174_41, s174_41b, s174_44, m174_45, s174_48, m174_50, s174_51, s174_54, m174_55, s174_58, m174_60, s174_61, s174_62, s174_63, s174_65, s174_68, Int.toNat_natCast, Int.toNat_natCast, Nat.reduceAdd, Nat.reduceMul, Int.reduceToNat, Int.reduceAdd, Int.reduceLT, Int.reduceLE, Int.reduceEq, Int.reduceNeg, Int.reduceMul, Int.reduceSub, Nat.reduceSub, reduceIte, ite_true, ite_false, and_true, true_and, and_self, v0, h1, m174_38 h110, vv]
      exact this
    · rw [if_neg (by omega)] at this
      rw [bI_f c] at h110
      simp (disch := omega) only [s174_25, m174_26, s174_29, s174_32, s174_34, s174_35, s174_36, s174_41, s174_41b, s174_44, m174_45, s174_48, m174_50, s174_51, s174_54, m174_55, s174_58, m174_60, s174_61, s174_62, s174_63, s174_65, s174_68, Int.toNat_natCast, Int.toNat_natCast, Nat.reduceAdd, Nat.reduceMul, Int.reduceToNat, Int.reduceAdd, Int.reduceLT, Int.reduceLE, Int.reduceEq, Int.reduceNeg, Int.reduceMul, Int.reduceSub, Nat.reduceSub, reduceIte, ite_true, ite_false, and_true, true_and, and_self, v0, h1, m174_38 h110, vv]
      exact this
theorem lp174 {d n N L : Nat} {B : q_Bv} {G H : q_Gi} (hd : 1 ≤ d) (hv : mv G H) (ho : Hok H) (hn : H 0 0 = (n : Int)) : ∀ (m s : Nat) (fo le lc : Int) (x y : Value), s + 2 * m = 2 ^ n + (s + 2 * m - 2 ^ n) → s + 2 * m ≤ 2 ^ n + 1 → 2 ^ n ≤ s + 2 * m → ((fo = -5 ∧ lc = 2147483647 ∧ le = 0) ∨ (0 ≤ fo ∧ fo ≤ 64 ∧ le = lc ∧ 0 ≤ lc ∧ lc ≤ 100)) → nL x = true → nL y = true → WP d 174 7 [.ref 82, vI fo, vI le, vI s, x, y] [] (hp N L B G) (fun r1 X1 => r1 = some (vI (towS (H 2) n m s fo lc)) ∧ X1 = hp N L B G) := by
  have hn6 : n ≤ 6 := by have := ho.1; omega
  have hpf := pc_full n (by omega)
  have v0 := hv.1
  rw [hn] at v0
  have es := shl_1 (b := n) (by omega)
  intro m
  induction m with
  | zero =>
    intro s fo le lc x y h0 h1 h2 h3 hx hy
    have c : ¬ (s : Int) < ((2 ^ n : Nat) : Int) := by omega
    simp (disch := first | omega | assumption) only [s174_7, s174_8, s174_9, m174_10, s174_13, s174_14, s174_110, s174_111, Int.toNat_natCast, Int.toNat_natCast, Nat.reduceAdd, Nat.reduceMul, Int.reduceToNat, Int.reduceAdd, Int.reduceLT, Int.reduceLE, Int.reduceEq, Int.reduceNeg, Int.reduceMul, Int.reduceSub, Nat.reduceSub, reduceIte, ite_true, ite_false, and_true, true_and, and_self, v0, es, c]
    rfl
  | succ m ih =>
    intro s fo le lc x y h0 h1 h2 h3 hx hy
    have c : (s : Int) < ((2 ^ n : Nat) : Int) := by omega
    have ar := apS_r (v := H 2) (s := (s : Int)) ho.2.2.1 n hn6
    have e0 : towS (H 2) n (m + 1) s fo lc = if ((apS (H 2) (s : Int) n).natAbs : Int) < lc then towS (H 2) n m (s + 2) s ((apS (H 2) (s : Int) n).natAbs : Int) else towS (H 2) n m (s + 2) fo lc := rfl
    rw [e0]
    rw [s174_7]
    simp (disch := first | omega | assumption) only [s174_8, s174_9, m174_10, s174_13, s174_14, s174_17, s174_18, s174_20, s174_21, Int.toNat_natCast, Int.toNat_natCast, Nat.reduceAdd, Nat.reduceMul, Int.reduceToNat, Int.reduceAdd, Int.reduceLT, Int.reduceLE, Int.reduceEq, Int.reduceNeg, Int.reduceMul, Int.reduceSub, Nat.reduceSub, reduceIte, ite_true, ite_false, and_true, true_and, and_self, v0, es, c]
    refine lp174i (d := d) (S := s) hd hv ho hn (by omega) n 0 (by omega) ?_
    have hz : ∃ z, z = ((apS (H 2) (s : Int) n).natAbs : Int) := ⟨_, rfl⟩
    obtain ⟨z, hz⟩ := hz
    rw [← hz]
    -- the absolute value
    have pre : ∀ (R : Option Value → q_H → Prop), WP d 174 86 [.ref 82, vI fo, vI le, vI s, vI (apS (H 2) (s : Int) n), vI z] [] (hp N L B G) R → WP d 174 71 [.ref 82, vI fo, vI le, vI s, vI (apS (H 2) (s : Int) n), vI n] [] (hp N L B G) R := by
      intro R hR
      by_cases cn : apS (H 2) (s : Int) n < 0
      · have ez : -(apS (H 2) (s : Int) n) = z := by omega
        have cn2 : ¬ 0 ≤ apS (H 2) (s : Int) n := by omega
        simp (disch := first | omega | assumption) only [s174_71, s174_73, s174_76, s174_78, s174_79, s174_82, s174_84, Int.toNat_natCast, Int.toNat_natCast, Nat.reduceAdd, Nat.reduceMul, Int.reduceToNat, Int.reduceAdd, Int.reduceLT, Int.reduceLE, Int.reduceEq, Int.reduceNeg, Int.reduceMul, Int.reduceSub, Nat.reduceSub, reduceIte, ite_true, ite_false, and_true, true_and, and_self, cn, cn2, ez]
        exact hR
      · have ez : apS (H 2) (s : Int) n = z := by omega
        have cn2 : 0 ≤ apS (H 2) (s : Int) n := by omega
        rw [ez] at hR cn cn2 ⊢
        simp (disch := first | omega | assumption) only [s174_71, s174_73, s174_76, s174_78, s174_79, s174_82, s174_84, Int.toNat_natCast, Int.toNat_natCast, Nat.reduceAdd, Nat.reduceMul, Int.reduceToNat, Int.reduceAdd, Int.reduceLT, Int.reduceLE, Int.reduceEq, Int.reduceNeg, Int.reduceMul, Int.reduceSub, Nat.reduceSub, reduceIte, ite_true, ite_false, and_true, true_and, and_self, cn, cn2]
        exact hR
    refine pre _ ?_
    have zr : 0 ≤ z ∧ z ≤ 54 := by omega
    have e2 : (s : Int) + 2 = ((s + 2 : Nat) : Int) := rfl
    rcases h3 with ⟨rfl, rfl, rfl⟩ | ⟨f1, f2, rfl, l1, l2⟩
    · rw [if_pos (by omega)]
      have := ih (s + 2) s z z (vI (apS (H 2) (s : Int) n)) (vI z) (by omega) (by omega) (by omega) (Or.inr ⟨by omega, by omega, rfl, by omega, by omega⟩) rfl rfl
      simp (disch := first | omega | assumption) only [s174_86, s174_87, s174_90, s174_92, s174_93, s174_96, s174_99, s174_100, s174_101, s174_103, s174_104, s174_107, Int.toNat_natCast, Int.toNat_natCast, Nat.reduceAdd, Nat.reduceMul, Int.reduceToNat, Int.reduceAdd, Int.reduceLT, Int.reduceLE, Int.reduceEq, Int.reduceNeg, Int.reduceMul, Int.reduceSub, Nat.reduceSub, reduceIte, ite_true, ite_false, and_true, true_and, and_self, e2]
      exact this
    · have fn : ¬ fo < 0 := by omega
      by_cases cz : z < le
      · rw [if_pos cz]
        have := ih (s + 2) s z z (vI (apS (H 2) (s : Int) n)) (vI z) (by omega) (by omega) (by omega) (Or.inr ⟨by omega, by omega, rfl, by omega, by omega⟩) rfl rfl
        simp (disch := first | omega | assumption) only [s174_86, s174_87, s174_90, s174_92, s174_93, s174_96, s174_99, s174_100, s174_101, s174_103, s174_104, s174_107, Int.toNat_natCast, Int.toNat_natCast, Nat.reduceAdd, Nat.reduceMul, Int.reduceToNat, Int.reduceAdd, Int.reduceLT, Int.reduceLE, Int.reduceEq, Int.reduceNeg, Int.reduceMul, Int.reduceSub, Nat.reduceSub, reduceIte, ite_true, ite_false, and_true, true_and, and_self, fn, cz, e2]
        exact this
      · rw [if_neg cz]
        have := ih (s + 2) fo le le (vI (apS (H 2) (s : Int) n)) (vI z) (by omega) (by omega) (by omega) (Or.inr ⟨f1, f2, rfl, l1, l2⟩) rfl rfl
        simp (disch := first | omega | assumption) only [s174_86, s174_87, s174_90, s174_92, s174_93, s174_96, s174_99, s174_100, s174_101, s174_103, s174_104, s174_107, Int.toNat_natCast, Int.toNat_natCast, Nat.reduceAdd, Nat.reduceMul, Int.reduceToNat, Int.reduceAdd, Int.reduceLT, Int.reduceLE, Int.reduceEq, Int.reduceNeg, Int.reduceMul, Int.reduceSub, Nat.reduceSub, reduceIte, ite_true, ite_false, and_true, true_and, and_self, fn, cz, e2]
        exact this
theorem sp174 {d N L : Nat} {B : q_Bv} {G H : q_Gi} (hd : 3 ≤ d) (hv : mv G H) (ho : Hok H) : Sp d 174 [.ref 82] (hp N L B G) (some (vI (r74 H))) (hp N L B G) := by
  obtain ⟨n, hn⟩ : ∃ n : Nat, H 0 0 = (n : Int) := ⟨(H 0 0).toNat, by have := ho.1; omega⟩
  have hn6 : n ≤ 6 := by have := ho.1; omega
  have hp2 : 2 ^ n = 1 ∨ 2 ^ n % 2 = 0 := by
    cases n with
    | zero => left; rfl
    | succ n => right; rw [Nat.pow_succ]; omega
  unfold r74
  rw [hn, Int.toNat_natCast]
  refine e174 (by omega) ?_
  simp (disch := omega) only [s174_0, s174_2, s174_3, s174_4, s174_5, s174_6, Int.toNat_natCast, Int.toNat_natCast, Nat.reduceAdd, Nat.reduceMul, Int.reduceToNat, Int.reduceAdd, Int.reduceLT, Int.reduceLE, Int.reduceEq, Int.reduceNeg, Int.reduceMul, Int.reduceSub, Nat.reduceSub, reduceIte, ite_true, ite_false, and_true, true_and, and_self]
  exact lp174 (d := d - 1) (by omega) hv ho hn (2 ^ n / 2) 1 (-5) 0 2147483647 .null .null (by omega) (by omega) (by omega) (Or.inl ⟨rfl, rfl, rfl⟩) rfl rfl
/-! what was seen -/
/-- the entry i is so -/
def entS (g : Int) (P H : q_Gi) (i : Nat) : Bool := decide (daysS g (P 6 i).toNat H 3 (P 4 i).toNat = P 5 i)
def entL (g : Int) (P H : q_Gi) : Nat → Nat → Bool
  | 0, _ => true
  | m + 1, i => if entS g P H i = true then entL g P H m (i + 1) else false
theorem entL_iff {g : Int} {P H : q_Gi} : ∀ (m i : Nat), entL g P H m i = true ↔ ∀ j, i ≤ j → j < i + m → entS g P H j = true := by
  intro m
  induction m with
  | zero => intro i; exact ⟨fun _ j h1 h2 => absurd h2 (by omega), fun _ => rfl⟩
  | succ m ih =>
    intro i
    unfold entL
    by_cases c : entS g P H i = true
    · rw [if_pos c, ih]
      constructor
      · intro h j h1 h2
        by_cases e : j = i
        · rw [e]; exact c
        · exact h j (by omega) (by omega)
      · intro h j h1 h2; exact h j (by omega) (by omega)
    · rw [if_neg c]
      constructor
      · intro h; exact absurd h Bool.false_ne_true
      · intro h; exact absurd (h i (by omega) (by omega)) c
theorem due_iff {P H : q_Gi} {dd : Nat} : ∀ (m i : Nat), dueS P H dd m i = true ↔ ∀ j, i ≤ j → j < i + m → P 6 j = (dd : Int) → H 3 (P 4 j).toNat = P 5 j := by
  intro m
  induction m with
  | zero => intro i; exact ⟨fun _ j h1 h2 => absurd h2 (by omega), fun _ => rfl⟩
  | succ m ih =>
    intro i
    unfold dueS
    by_cases c : P 6 i = (dd : Int)
    · rw [if_pos c]
      by_cases c2 : H 3 (P 4 i).toNat = P 5 i
      · rw [if_pos c2, ih]
        constructor
        · intro h j h1 h2 h3
          by_cases e : j = i
          · rw [e]; exact c2
          · exact h j (by omega) (by omega) h3
        · intro h j h1 h2 h3; exact h j (by omega) (by omega) h3
      · rw [if_neg c2]
        constructor
        · intro h; exact absurd h Bool.false_ne_true
        · intro h; exact absurd (h i (by omega) (by omega) c) c2
    · rw [if_neg c, ih]
      constructor
      · intro h j h1 h2 h3
        by_cases e : j = i
        · rw [e] at h3; exact absurd h3 c
        · exact h j (by omega) (by omega) h3
      · intro h j h1 h2 h3; exact h j (by omega) (by omega) h3
theorem seen_iff {g : Int} {P : q_Gi} : ∀ (m dd : Nat) (H : q_Gi), seenS g P m dd H = true ↔ ∀ j : Nat, j < (P 0 1).toNat → (dd : Int) ≤ P 6 j → P 6 j < (dd : Int) + (m : Int) → daysS g (P 6 j - (dd : Int)).toNat H 3 (P 4 j).toNat = P 5 j := by
  intro m
  induction m with
  | zero => intro dd H; exact ⟨fun _ j h1 h2 h3 => absurd h3 (by omega), fun _ => rfl⟩
  | succ m ih =>
    intro dd H
    unfold seenS
    by_cases c : dueS P H dd (P 0 1).toNat 0 = true
    · rw [if_pos c, ih]
      have cd := (due_iff _ _).mp c
      constructor
      · intro h j h1 h2 h3
        by_cases e : P 6 j = (dd : Int)
        · rw [e, Int.sub_self]
          exact cd j (by omega) (by omega) e
        · have := h j h1 (by omega) (by omega)
          rw [show (P 6 j - (dd : Int)).toNat = (P 6 j - ((dd + 1 : Nat) : Int)).toNat + 1 by omega]
          exact this
      · intro h j h1 h2 h3
        have := h j h1 (by omega) (by omega)
        rw [show (P 6 j - (dd : Int)).toNat = (P 6 j - ((dd + 1 : Nat) : Int)).toNat + 1 by omega] at this
        exact this
    · rw [if_neg c]
      constructor
      · intro h; exact absurd h Bool.false_ne_true
      · intro h
        refine absurd ((due_iff _ _).mpr (fun j h1 h2 h3 => ?_)) c
        have := h j (by omega) (by omega) (by omega)
        rw [h3, Int.sub_self] at this
        exact this
theorem seen_ent {g : Int} {P H : q_Gi} (hP : Pok P) : seenS g P 31 0 H = entL g P H (P 0 1).toNat 0 := by
  have h5 := hP.2.1
  have key : seenS g P 31 0 H = true ↔ entL g P H (P 0 1).toNat 0 = true := by
    rw [seen_iff, entL_iff]
    constructor
    · intro h j h1 h2
      have h6 := hP.2.2.2.2.2.2.2.1 j (by omega)
      have := h j (by omega) (by omega) (by omega)
      rw [show (P 6 j - ((0 : Nat) : Int)).toNat = (P 6 j).toNat by omega] at this
      exact decide_eq_true this
    · intro h j h1 h2 h3
      have := of_decide_eq_true (h j (by omega) (by omega))
      rw [show (P 6 j - ((0 : Nat) : Int)).toNat = (P 6 j).toNat by omega]
      exact this
  cases h1 : seenS g P 31 0 H <;> cases h2 : entL g P H (P 0 1).toNat 0
  · rfl
  · rw [h1, h2] at key; exact absurd (key.mpr rfl) Bool.false_ne_true
  · rw [h1, h2] at key; exact absurd (key.mp rfl) Bool.false_ne_true
  · rfl
