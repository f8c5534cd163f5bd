/-! the class's ring -/
def pcN (S : Nat) : Nat := S % 2 + S / 2 % 2 + S / 4 % 2 + S / 8 % 2 + S / 16 % 2 + S / 32 % 2
theorem bc_pc : ∀ S : Nat, S < 64 → bcS (S : Int) = (pcN S : Int) := by decide
def boB (n S b : Nat) : Bool := !(decide (S < 2 ^ n) && decide (b < n) && decide (S / 2 ^ b % 2 = 0)) || (decide (S + 2 ^ b < 2 ^ n) && decide (pcN (S + 2 ^ b) = pcN S + 1) && decide (S ||| 2 ^ b = S + 2 ^ b))
theorem bit_ok' : ∀ n : Nat, n < 7 → ∀ S : Nat, S < 64 → ∀ b : Nat, b < 6 → boB n S b = true := by decide
theorem bit_ok (n : Nat) (hn : n < 7) (S : Nat) (hS : S < 64) (b : Nat) (hb : b < 6) (h1 : S < 2 ^ n) (h2 : b < n) (h3 : S / 2 ^ b % 2 = 0) : S + 2 ^ b < 2 ^ n ∧ pcN (S + 2 ^ b) = pcN S + 1 ∧ S ||| 2 ^ b = S + 2 ^ b := by
  have := bit_ok' n hn S hS b hb
  unfold boB at this
  rw [decide_eq_true h1, decide_eq_true h2, decide_eq_true h3] at this
  simp only [Bool.and_self, Bool.not_true, Bool.false_or, Bool.and_eq_true, decide_eq_true_eq] at this
  exact ⟨this.1.1, this.1.2, this.2⟩
theorem pc_le : ∀ n, n < 7 → ∀ S, S < 64 → S < 2 ^ n → pcN S ≤ n ∧ (pcN S = n → S = 2 ^ n - 1) := by decide
theorem pc_bit : ∀ n, n < 7 → ∀ S, S < 64 → S < 2 ^ n → pcN S < n → ((List.range' 0 n).any (fun b => S / 2 ^ b % 2 == 0)) = true := by decide
theorem pc_full : ∀ n, n < 7 → pcN (2 ^ n - 1) = n ∧ 2 ^ n - 1 < 2 ^ n ∧ 2 ^ n ≤ 64 ∧ 0 < 2 ^ n := by decide
theorem bit_t {S b : Nat} (hS : S < 64) (hb : b < 6) : iand (ishr (S : Int) (b : Int)) 1 = ((S / 2 ^ b % 2 : Nat) : Int) := by
  rw [ishr_n (by omega) (by omega)]
  have := @iand_n (S / 2 ^ b) 1 (Nat.lt_of_le_of_lt (Nat.div_le_self _ _) (by omega)) (by decide)
  rw [Nat.and_one_is_mod] at this
  exact this
theorem pw_b {b : Nat} (hb : b < 6) : 2 ^ b < 64 := Nat.pow_lt_pow_right (by decide) (show b < 6 from hb)
theorem shl_1 {b : Nat} (hb : b < 7) : ishl 1 (b : Int) = ((2 ^ b : Nat) : Int) := by
  have h : 2 ^ b < 2 ^ 7 := Nat.pow_lt_pow_right (by decide) hb
  have := @ishl_n 1 b (by omega) (by omega)
  rw [Nat.one_mul] at this
  exact this
theorem bit_s {n S b : Nat} (hn : n < 7) (hS : S < 64) (hSn : S < 2 ^ n) (hb : b < 6) (hbn : b < n) (h0 : S / 2 ^ b % 2 = 0) : ior (S : Int) (ishl 1 (b : Int)) = ((S + 2 ^ b : Nat) : Int) := by
  have h1 := pw_b hb
  rw [shl_1 (by omega), ior_n (by omega) (by omega), (bit_ok n hn S hS b hb hSn hbn h0).2.2]
/-- is the STROKE good, when it is the next behind pc others -/
def gS (t : Int) (H : q_Gi) (pc b : Nat) : Int := bI (tunedS t (H 1 b) (H 2 b) (max 0 (H 3 b - (pc : Int))) = true)
/-- with k BELLS left and those of S struck: how many can be good -/
def VS (t : Int) (H : q_Gi) (n : Nat) : Nat → Nat → Int
  | 0, _ => 0
  | k + 1, S => (List.range' 0 n).foldl (fun m b => if S / 2 ^ b % 2 = 0 then max m (VS t H n k (S + 2 ^ b) + gS t H (n - (k + 1)) b) else m) 0
theorem gS_r (t : Int) (H : q_Gi) (p b : Nat) : 0 ≤ gS t H p b ∧ gS t H p b ≤ 1 := by unfold gS; rcases bI_01 (tunedS t (H 1 b) (H 2 b) (max 0 (H 3 b - (p : Int))) = true) with h | h <;> rw [h] <;> decide
theorem fmax_r {f : Nat → Int} {c : Nat → Prop} [DecidablePred c] {lo hi : Int} (hf : ∀ b, lo ≤ f b ∧ f b ≤ hi) : ∀ (l : List Nat) (m : Int), lo ≤ m ∧ m ≤ hi → lo ≤ l.foldl (fun m b => if c b then max m (f b) else m) m ∧ l.foldl (fun m b => if c b then max m (f b) else m) m ≤ hi := by
  intro l
  induction l with
  | nil => intro m h; exact h
  | cons b l ih =>
    intro m h
    rw [List.foldl_cons]
    refine ih _ ?_
    have := hf b
    split <;> omega
theorem VS_r (t : Int) (H : q_Gi) (n : Nat) : ∀ (k S : Nat), 0 ≤ VS t H n k S ∧ VS t H n k S ≤ (k : Int) := by
  intro k
  induction k with
  | zero => intro S; exact ⟨Int.le_refl _, Int.le_refl _⟩
  | succ k ih =>
    intro S
    unfold VS
    refine fmax_r (c := fun b => S / 2 ^ b % 2 = 0) (f := fun b => VS t H n k (S + 2 ^ b) + gS t H (n - (k + 1)) b) (lo := 0) (hi := ((k + 1 : Nat) : Int)) (fun b => ?_) _ 0 ⟨Int.le_refl _, by omega⟩
    have h1 := ih (S + 2 ^ b)
    have h2 := gS_r t H (n - (k + 1)) b
    omega
/-- the good behind S, when b is struck next -/
theorem sp105 {d u n N L : Nat} {t g : Int} {cl : List (Int × List Int)} {B : q_Bv} {G H : q_Gi} {S b : Nat} (hd : 5 ≤ d) (hv : hv1 G H) (ho : Hok H) (hu : G 1 8 = (u : Int)) (hU : upl B N u t g cl) (hn : H 0 0 = (n : Int)) (hb : b < n) (hS : S < 2 ^ n) (h0 : S / 2 ^ b % 2 = 0) (hG : -2147483648 ≤ G 64 (S + 2 ^ b) ∧ G 64 (S + 2 ^ b) ≤ 2147483647) : Sp d 105 [.ref 0, vI S, vI b] (hp N L B G) (some (vI (G 64 (S + 2 ^ b) + gS t H (pcN S) b))) (hp N L B G) := by
  have hn6 : n ≤ 6 := by have := ho.1; omega
  have hb6 : b < 6 := by omega
  have hpf := pc_full n (by omega)
  have hS64 : S < 64 := by omega
  have hok' := hok1_v hv ho
  obtain ⟨v0, v6, v7, v1, v2, v3, v4, v5⟩ := hv
  have h3 := ho.2.2.2.1 b hb6
  have hpc := pc_le n (by omega) S hS64 hS
  have hbo := bit_ok n (by omega) S hS64 b hb6 hS hb h0
  have h9 := sp9_1 (d := d - 1) (L := L) (f := max 0 (H 3 b - (pcN S : Int))) (by omega) hok' hu hU hb6 (by omega)
  rw [v1 b hb6, v2 b hb6] at h9
  change Sp (d - 1) 9 _ _ (some (vI (gS t H (pcN S) b))) _ at h9
  have h207 := sp207 (d := d - 1) (z := (S : Int)) (X := hp N L B G) (by omega)
  rw [bc_pc S hS64] at h207
  have es := bit_s (n := n) (by omega) hS64 hS hb6 hb h0
  have h64 : S + 2 ^ b < 64 := by omega
  have hg : gS t H (pcN S) b = 0 ∨ gS t H (pcN S) b = 1 := bI_01 _
  refine e105 (by omega) ?_
  rcases hg with hg | hg
  · rw [hg] at h9 ⊢
    simp (disch := omega) only [s105_0, s105_1, m105_2, m105_5, s105_8, m105_9, s105_10, s105_14, s105_15, s105_18, s105_19, m105_20, s105_23, s105_24, s105_25, s105_26, s105_27, m105_28, s105_29, m105_30, s105_33, s105_34, s105_38, s105_38b, s105_41, s105_42, s105_45, s105_46, s105_47, Int.toNat_natCast, Int.toNat_natCast, Nat.reduceAdd, Nat.reduceMul, Int.reduceToNat, Int.reduceAdd, Int.reduceLT, Int.reduceLE, Int.reduceEq, Int.reduceNeg, Int.reduceMul, Int.reduceSub, Nat.reduceSub, reduceIte, ite_true, ite_false, and_true, true_and, and_self, v3 b hb6, c105_11 h207, es, m105_35 h9, Int.add_zero]
  · rw [hg] at h9 ⊢
    simp (disch := omega) only [s105_0, s105_1, m105_2, m105_5, s105_8, m105_9, s105_10, s105_14, s105_15, s105_18, s105_19, m105_20, s105_23, s105_24, s105_25, s105_26, s105_27, m105_28, s105_29, m105_30, s105_33, s105_34, s105_38, s105_38b, s105_41, s105_42, s105_45, s105_46, s105_47, Int.toNat_natCast, Int.toNat_natCast, Nat.reduceAdd, Nat.reduceMul, Int.reduceToNat, Int.reduceAdd, Int.reduceLT, Int.reduceLE, Int.reduceEq, Int.reduceNeg, Int.reduceMul, Int.reduceSub, Nat.reduceSub, reduceIte, ite_true, ite_false, and_true, true_and, and_self, v3 b hb6, c105_11 h207, es, m105_35 h9]
/-- mostGood is as it should be from S on -/
def rgd (t : Int) (H : q_Gi) (n lo : Nat) (G : q_Gi) : Prop := ∀ S, lo ≤ S → S < 2 ^ n → G 64 S = VS t H n (n - pcN S) S
theorem lp104i {d u n N L : Nat} {t g fu : Int} {cl : List (Int × List Int)} {B : q_Bv} {G H : q_Gi} {S k : Nat} (hd : 5 ≤ d) (hv : hv1 G H) (ho : Hok H) (hu : G 1 8 = (u : Int)) (hU : upl B N u t g cl) (hn : H 0 0 = (n : Int)) (hS : S < 2 ^ n) (hk : n - pcN S = k + 1) (hg : rgd t H n (S + 1) G) {Q : Option Value → q_H → Prop} : ∀ (r b : Nat) (m : Int), b + r = n → 0 ≤ m ∧ m ≤ 100 → WP d 104 71 [.ref 0, vI fu, vI S, vI ((List.range' b r).foldl (fun m b => if S / 2 ^ b % 2 = 0 then max m (VS t H n k (S + 2 ^ b) + gS t H (n - (k + 1)) b) else m) m), vI n] [] (hp N L B G) Q → WP d 104 32 [.ref 0, vI fu, vI S, vI m, vI b] [] (hp N L B G) Q := by
  have hn6 : n ≤ 6 := by have := ho.1; omega
  have hpf := pc_full n (by omega)
  have hS64 : S < 64 := by omega
  have hpc := pc_le n (by omega) S hS64 hS
  have v0 := hv.1
  rw [hn] at v0
  intro r
  induction r with
  | zero =>
    intro b m hb hm hR
    have h1 : ¬ (b : Int) < (n : Int) := by omega
    obtain rfl : b = n := by omega
    simp (disch := omega) only [s104_32, s104_34, m104_35, m104_38, s104_41, Int.toNat_natCast, Int.toNat_natCast, Nat.reduceAdd, Nat.reduceMul, Int.reduceToNat, Int.reduceAdd, Int.reduceLT, Int.reduceLE, Int.reduceEq, Int.reduceNeg, Int.reduceMul, Int.reduceSub, Nat.reduceSub, reduceIte, ite_true, ite_false, and_true, true_and, and_self, v0, h1]
    exact hR
  | succ r ih =>
    intro b m hb hm hR
    have h1 : (b : Int) < (n : Int) := by omega
    have hb6 : b < 6 := by omega
    have eb := bit_t (S := S) hS64 hb6
    have h2 : S / 2 ^ b % 2 = 0 ∨ S / 2 ^ b % 2 = 1 := by have := Nat.mod_lt (S / 2 ^ b) (show 0 < 2 by decide); omega
    rw [List.range'_succ, List.foldl_cons] at hR
    rcases h2 with h2 | h2
    · rw [if_pos h2] at hR
      have hbo := bit_ok n (by omega) S hS64 b hb6 hS (by omega) h2
      have hp2 : 0 < 2 ^ b := Nat.two_pow_pos b
      have e64 := hg (S + 2 ^ b) (by omega) hbo.1
      rw [hbo.2.1, show n - (pcN S + 1) = k by omega] at e64
      have hr := VS_r t H n k (S + 2 ^ b)
      have hgr := gS_r t H (n - (k + 1)) b
      have h105 := sp105 (d := d) (S := S) (b := b) (L := L) hd hv ho hu hU hn (by omega) hS h2 (by rw [e64]; omega)
      rw [e64, show pcN S = n - (k + 1) by omega] at h105
      have := ih (b + 1) _ (by omega) (by omega) hR
      rw [h2] at eb
      rw [s104_32]
      simp (disch := omega) only [s104_34, m104_35, m104_38, s104_41, s104_44, s104_45, s104_47, s104_48, s104_49, s104_50, s104_50b, s104_53, s104_54, s104_55, s104_56, s104_61, s104_64, s104_65, s104_68, Int.toNat_natCast, Int.toNat_natCast, Nat.reduceAdd, Nat.reduceMul, Int.reduceToNat, Int.reduceAdd, Int.reduceLT, Int.reduceLE, Int.reduceEq, Int.reduceNeg, Int.reduceMul, Int.reduceSub, Nat.reduceSub, reduceIte, ite_true, ite_false, and_true, true_and, and_self, v0, h1, eb, show ((0 : Nat) : Int) = 0 from rfl, m104_58 h105]
      exact this
    · rw [if_neg (by omega)] at hR
      have := ih (b + 1) _ (by omega) hm hR
      rw [h2] at eb
      rw [s104_32]
      simp (disch := omega) only [s104_34, m104_35, m104_38, s104_41, s104_44, s104_45, s104_47, s104_48, s104_49, s104_50, s104_50b, s104_53, s104_54, s104_55, s104_56, s104_61, s104_64, s104_65, s104_68, Int.toNat_natCast, Int.toNat_natCast, Nat.reduceAdd, Nat.reduceMul, Int.reduceToNat, Int.reduceAdd, Int.reduceLT, Int.reduceLE, Int.reduceEq, Int.reduceNeg, Int.reduceMul, Int.reduceSub, Nat.reduceSub, reduceIte, ite_true, ite_false, and_true, true_and, and_self, v0, h1, eb, show ((1 : Nat) : Int) = 1 from rfl]
      exact this
theorem lp104 {d u n N L : Nat} {t g fu : Int} {cl : List (Int × List Int)} {B : q_Bv} {H : q_Gi} (hd : 5 ≤ d) (ho : Hok H) (hU : upl B N u t g cl) (hn : H 0 0 = (n : Int)) {Q : Option Value → q_H → Prop} : ∀ (m : Nat) (G : q_Gi) (x y : Value), m + 1 ≤ 2 ^ n → hv1 G H → G 1 8 = (u : Int) → rgd t H n m G → nL x = true → nL y = true → (∀ G', rgd t H n 0 G' → (∀ a, a ≠ 64 → G' a = G a) → Q none (hp N L B G')) → WP d 104 23 [.ref 0, vI fu, vI ((m : Int) - 1), x, y] [] (hp N L B G) Q := by
  have hn6 : n ≤ 6 := by have := ho.1; omega
  have hpf := pc_full n (by omega)
  intro m
  induction m with
  | zero =>
    intro G x y hm hv hu hg hx hy hQ
    simp (disch := omega) only [s104_23, s104_24, s104_84, Int.toNat_natCast, Int.toNat_natCast, Nat.reduceAdd, Nat.reduceMul, Int.reduceToNat, Int.reduceAdd, Int.reduceLT, Int.reduceLE, Int.reduceEq, Int.reduceNeg, Int.reduceMul, Int.reduceSub, Nat.reduceSub, reduceIte, ite_true, ite_false, and_true, true_and, and_self, show ((0 : Nat) : Int) - 1 = -1 from rfl]
    exact hQ G hg (fun _ _ => rfl)
  | succ m ih =>
    intro G x y hm hv hu hg hx hy hQ
    have e1 : ((m + 1 : Nat) : Int) - 1 = (m : Int) := by omega
    have h1 : ¬ (m : Int) < 0 := by omega
    have hpc := pc_le n (by omega) m (by omega) (by omega)
    have hk : n - pcN m = (n - pcN m - 1) + 1 := by
      have : pcN m ≠ n := fun h => by have := hpc.2 h; omega
      omega
    rw [s104_23, e1]
    simp (disch := first | omega | assumption) only [s104_24, s104_27, s104_28, s104_29, s104_30, Int.toNat_natCast, Int.toNat_natCast, Nat.reduceAdd, Nat.reduceMul, Int.reduceToNat, Int.reduceAdd, Int.reduceLT, Int.reduceLE, Int.reduceEq, Int.reduceNeg, Int.reduceMul, Int.reduceSub, Nat.reduceSub, reduceIte, ite_true, ite_false, and_true, true_and, and_self, h1]
    refine lp104i (k := n - pcN m - 1) hd hv ho hu hU hn (by omega) hk hg n 0 0 (by omega) (by omega) ?_
    have eV : (List.range' 0 n).foldl (fun x b => if m / 2 ^ b % 2 = 0 then max x (VS t H n (n - pcN m - 1) (m + 2 ^ b) + gS t H (n - (n - pcN m - 1 + 1)) b) else x) 0 = VS t H n (n - pcN m) m := by rw [hk]; rfl
    rw [eV]
    simp (disch := first | omega | assumption) only [s104_71, m104_72, s104_75, s104_76, m104_77, s104_78, s104_81, Int.toNat_natCast, Int.toNat_natCast, Nat.reduceAdd, Nat.reduceMul, Int.reduceToNat, Int.reduceAdd, Int.reduceLT, Int.reduceLE, Int.reduceEq, Int.reduceNeg, Int.reduceMul, Int.reduceSub, Nat.reduceSub, reduceIte, ite_true, ite_false, and_true, true_and, and_self]
    have hv' : hv1 (ug G 64 m (VS t H n (n - pcN m) m)) H := hv1_f hv (fun a _ _ => ug_ne (by omega))
    have := ih (ug G 64 m (VS t H n (n - pcN m) m)) (vI (VS t H n (n - pcN m) m)) (vI (n : Int)) (by omega) hv' (by rw [ug_ne (by omega)]; exact hu) (by
      intro S h1 h2
      by_cases c : S = m
      · subst c; rw [ug_at]
      · rw [ug_k c]; exact hg S (by omega) h2) rfl rfl (fun G' h1 h2 => hQ G' h1 (fun a ha => by rw [h2 a ha, ug_ne ha]))
    rw [show (m : Int) - 1 = (m : Int) + -1 from rfl] at this
    exact this
theorem sp104 {d u n N L : Nat} {t g : Int} {cl : List (Int × List Int)} {B : q_Bv} {G H : q_Gi} (hd : 6 ≤ d) (hv : hv1 G H) (ho : Hok H) (hu : G 1 8 = (u : Int)) (hU : upl B N u t g cl) (hn : H 0 0 = (n : Int)) : ∃ G', Sp d 104 [.ref 0] (hp N L B G) none (hp N L B G') ∧ rgd t H n 0 G' ∧ ∀ a, a ≠ 64 → G' a = G a := by
  have hn6 : n ≤ 6 := by have := ho.1; omega
  have hpf := pc_full n (by omega)
  have v0 := hv.1
  rw [hn] at v0
  obtain ⟨r1, X1, hS, G', hr, hX, q⟩ := E104 (d := d) (X := hp N L B G) (Q := fun r1 X1 => ∃ G', r1 = none ∧ X1 = hp N L B G' ∧ rgd t H n 0 G' ∧ ∀ a, a ≠ 64 → G' a = G a) (by omega) (by
    have e1 := shl_1 (b := n) (by omega)
    have e2 : ((2 ^ n : Nat) : Int) - 1 = ((2 ^ n - 1 : Nat) : Int) := by omega
    simp (disch := omega) only [s104_0, s104_1, m104_2, m104_5, s104_8, s104_9, s104_10, s104_11, s104_12, m104_13, s104_16, s104_17, m104_18, s104_19, s104_20, s104_21, s104_22, Int.toNat_natCast, Int.toNat_natCast, Nat.reduceAdd, Nat.reduceMul, Int.reduceToNat, Int.reduceAdd, Int.reduceLT, Int.reduceLE, Int.reduceEq, Int.reduceNeg, Int.reduceMul, Int.reduceSub, Nat.reduceSub, reduceIte, ite_true, ite_false, and_true, true_and, and_self, v0, e1, e2]
    have hg0 : rgd t H n (2 ^ n - 1) (ug G 64 (2 ^ n - 1) 0) := by
      intro S h1 h2
      obtain rfl : S = 2 ^ n - 1 := by omega
      rw [ug_at, hpf.1, Nat.sub_self]
      rfl
    exact lp104 (n := n) (N := N) (L := L) (d := d - 1) (fu := ((2 ^ n - 1 : Nat) : Int)) (by omega) ho hU hn (Q := fun r1 X1 => ∃ G', r1 = none ∧ X1 = hp N L B G' ∧ rgd t H n 0 G' ∧ ∀ a, a ≠ 64 → G' a = G a) (2 ^ n - 1) (ug G 64 (2 ^ n - 1) 0) .null .null (by omega) (hv1_f hv (fun a _ _ => ug_ne (by omega))) (by rw [ug_ne (by omega)]; exact hu) hg0 rfl rfl (fun G' h1 h2 => ⟨G', rfl, rfl, h1, fun a ha => by rw [h2 a ha, ug_ne ha]⟩))
  exact ⟨G', by rw [hr, hX] at hS; exact hS, q⟩
theorem fmax_ge {f : Nat → Int} {c : Nat → Prop} [DecidablePred c] : ∀ (l : List Nat) (m : Int), m ≤ l.foldl (fun m b => if c b then max m (f b) else m) m ∧ ∀ b, b ∈ l → c b → f b ≤ l.foldl (fun m b => if c b then max m (f b) else m) m := by
  intro l
  induction l with
  | nil => intro m; exact ⟨Int.le_refl _, fun b hb => absurd hb List.not_mem_nil⟩
  | cons a l ih =>
    intro m
    rw [List.foldl_cons]
    have h1 := ih (if c a then max m (f a) else m)
    refine ⟨Int.le_trans ?_ h1.1, ?_⟩
    · split <;> omega
    · intro b hb cb
      rcases List.mem_cons.mp hb with rfl | hb
      · rw [if_pos cb] at h1 ⊢
        exact Int.le_trans (by omega) h1.1
      · exact h1.2 b hb cb
theorem fmax_at {f : Nat → Int} {c : Nat → Prop} [DecidablePred c] : ∀ (l : List Nat) (m : Int), l.foldl (fun m b => if c b then max m (f b) else m) m = m ∨ ∃ b, b ∈ l ∧ c b ∧ f b = l.foldl (fun m b => if c b then max m (f b) else m) m := by
  intro l
  induction l with
  | nil => intro m; exact Or.inl rfl
  | cons a l ih =>
    intro m
    rw [List.foldl_cons]
    rcases ih (if c a then max m (f a) else m) with h | ⟨b, h1, h2, h3⟩
    · rw [h]
      by_cases ca : c a
      · rw [if_pos ca]
        by_cases hm : f a ≤ m
        · left; omega
        · right; exact ⟨a, List.mem_cons_self, ca, by omega⟩
      · rw [if_neg ca]; exact Or.inl rfl
    · exact Or.inr ⟨b, List.mem_cons_of_mem _ h1, h2, h3⟩
/-- b may be struck first of the best behind S -/
def okB (t : Int) (H : q_Gi) (n k S b : Nat) : Bool := decide (S / 2 ^ b % 2 = 0) && decide (VS t H n k (S + 2 ^ b) + gS t H (n - (k + 1)) b = VS t H n (k + 1) S)
def fbN (t : Int) (H : q_Gi) (n k S : Nat) : Nat := ((List.range' 0 n).find? (okB t H n k S)).getD 0
theorem fb_ex {t : Int} {H : q_Gi} {n k S : Nat} (hn : n < 7) (hS : S < 2 ^ n) (hk : n - pcN S = k + 1) : ∃ b, (List.range' 0 n).find? (okB t H n k S) = some b ∧ b < n ∧ S / 2 ^ b % 2 = 0 ∧ VS t H n k (S + 2 ^ b) + gS t H (n - (k + 1)) b = VS t H n (k + 1) S := by
  have hpf := pc_full n hn
  have hany : ∃ b, b ∈ List.range' 0 n ∧ okB t H n k S b = true := by
    have h1 := pc_bit n hn S (by omega) hS (by omega)
    obtain ⟨b0, hb0, hc0⟩ := List.any_eq_true.mp h1
    have hc0 : S / 2 ^ b0 % 2 = 0 := by simpa using hc0
    have hge := @fmax_ge (fun b => VS t H n k (S + 2 ^ b) + gS t H (n - (k + 1)) b) (fun b => S / 2 ^ b % 2 = 0) _ (List.range' 0 n) 0
    have hat := @fmax_at (fun b => VS t H n k (S + 2 ^ b) + gS t H (n - (k + 1)) b) (fun b => S / 2 ^ b % 2 = 0) _ (List.range' 0 n) 0
    change 0 ≤ VS t H n (k + 1) S ∧ (∀ b, b ∈ List.range' 0 n → S / 2 ^ b % 2 = 0 → VS t H n k (S + 2 ^ b) + gS t H (n - (k + 1)) b ≤ VS t H n (k + 1) S) at hge
    change VS t H n (k + 1) S = 0 ∨ (∃ b, b ∈ List.range' 0 n ∧ S / 2 ^ b % 2 = 0 ∧ VS t H n k (S + 2 ^ b) + gS t H (n - (k + 1)) b = VS t H n (k + 1) S) at hat
    rcases hat with h0 | ⟨b, hb, c, e⟩
    · refine ⟨b0, hb0, ?_⟩
      have h2 := hge.2 b0 hb0 hc0
      have h3 := VS_r t H n k (S + 2 ^ b0)
      have h4 := gS_r t H (n - (k + 1)) b0
      unfold okB
      rw [decide_eq_true hc0, decide_eq_true (by omega)]
      rfl
    · refine ⟨b, hb, ?_⟩
      unfold okB
      rw [decide_eq_true c, decide_eq_true e]
      rfl
  cases hf : (List.range' 0 n).find? (okB t H n k S) with
  | none =>
    obtain ⟨b, hb, hc⟩ := hany
    exact absurd hc (by have := List.find?_eq_none.mp hf b hb; simpa using this)
  | some b =>
    refine ⟨b, rfl, ?_⟩
    have h1 := List.find?_some hf
    have h2 := List.mem_of_find?_eq_some hf
    unfold okB at h1
    simp only [Bool.and_eq_true, decide_eq_true_eq] at h1
    rw [List.mem_range'_1] at h2
    exact ⟨by omega, h1.1, h1.2⟩
theorem lp107 {d u n N L : Nat} {t g : Int} {cl : List (Int × List Int)} {B : q_Bv} {G H : q_Gi} {S k : Nat} (hd : 5 ≤ d) (hv : hv1 G H) (ho : Hok H) (hu : G 1 8 = (u : Int)) (hU : upl B N u t g cl) (hn : H 0 0 = (n : Int)) (hS : S < 2 ^ n) (hk : n - pcN S = k + 1) (hg : rgd t H n 0 G) : ∀ (r b : Nat), b + r = n → WP d 107 2 [.ref 0, vI S, vI b] [] (hp N L B G) (fun r1 X1 => r1 = some (vI (match (List.range' b r).find? (okB t H n k S) with | some b => (b : Int) | none => -5)) ∧ X1 = hp N L B G) := by
  have hn6 : n ≤ 6 := by have := ho.1; omega
  have hpf := pc_full n (by omega)
  have hS64 : S < 64 := by omega
  have v0 := hv.1
  rw [hn] at v0
  intro r
  induction r with
  | zero =>
    intro b hb
    have h1 : ¬ (b : Int) < (n : Int) := by omega
    simp (disch := omega) only [s107_2, s107_3, m107_4, m107_7, s107_10, s107_44, s107_46, Int.toNat_natCast, Int.toNat_natCast, Nat.reduceAdd, Nat.reduceMul, Int.reduceToNat, Int.reduceAdd, Int.reduceLT, Int.reduceLE, Int.reduceEq, Int.reduceNeg, Int.reduceMul, Int.reduceSub, Nat.reduceSub, reduceIte, ite_true, ite_false, and_true, true_and, and_self, v0, h1, List.range'_zero, List.find?_nil]
  | succ r ih =>
    intro b hb
    have h1 : (b : Int) < (n : Int) := by omega
    have hb6 : b < 6 := by omega
    have eb := bit_t (S := S) hS64 hb6
    have h2 : S / 2 ^ b % 2 = 0 ∨ S / 2 ^ b % 2 = 1 := by have := Nat.mod_lt (S / 2 ^ b) (show 0 < 2 by decide); omega
    have := ih (b + 1) (by omega)
    rw [List.range'_succ, List.find?_cons]
    rcases h2 with h2 | h2
    · have hbo := bit_ok n (by omega) S hS64 b hb6 hS (by omega) h2
      have e64 := hg (S + 2 ^ b) (by omega) hbo.1
      rw [hbo.2.1, show n - (pcN S + 1) = k by omega] at e64
      have eS := hg S (by omega) hS
      rw [hk] at eS
      have hr := VS_r t H n k (S + 2 ^ b)
      have hr2 := VS_r t H n (k + 1) S
      have hgr := gS_r t H (n - (k + 1)) b
      have h105 := sp105 (d := d) (S := S) (b := b) (L := L) hd hv ho hu hU hn (by omega) hS h2 (by rw [e64]; omega)
      rw [e64, show pcN S = n - (k + 1) by omega] at h105
      rw [h2] at eb
      have hk6 : ((k + 1 : Nat) : Int) ≤ 6 := by omega
      by_cases c : VS t H n k (S + 2 ^ b) + gS t H (n - (k + 1)) b = VS t H n (k + 1) S
      · have ec : okB t H n k S b = true := by unfold okB; rw [decide_eq_true h2, decide_eq_true c]; rfl
        rw [ec]
        have c' := eq_true c
        simp (disch := omega) only [s107_0, s107_1, s107_2, s107_3, m107_4, m107_7, s107_10, s107_13, s107_14, s107_15, s107_16, s107_17, s107_18, s107_18b, s107_21, s107_22, s107_23, s107_27, m107_28, s107_31, m107_32, s107_33, s107_33b, s107_36, s107_37, s107_38, s107_41, s107_44, s107_46, Int.toNat_natCast, Int.toNat_natCast, Nat.reduceAdd, Nat.reduceMul, Int.reduceToNat, Int.reduceAdd, Int.reduceLT, Int.reduceLE, Int.reduceEq, Int.reduceNeg, Int.reduceMul, Int.reduceSub, Nat.reduceSub, reduceIte, ite_true, ite_false, and_true, true_and, and_self, v0, h1, eb, show ((0 : Nat) : Int) = 0 from rfl, m107_24 h105, eS, c', if_true]
      · have ec : okB t H n k S b = false := by unfold okB; rw [decide_eq_true h2, decide_eq_false c]; rfl
        rw [ec]
        have c' := eq_false c
        rw [s107_2]
        simp (disch := omega) only [s107_3, m107_4, m107_7, s107_10, s107_13, s107_14, s107_15, s107_16, s107_17, s107_18, s107_18b, s107_21, s107_22, s107_23, s107_27, m107_28, s107_31, m107_32, s107_33, s107_33b, s107_36, s107_37, s107_38, s107_41, s107_44, s107_46, Int.toNat_natCast, Int.toNat_natCast, Nat.reduceAdd, Nat.reduceMul, Int.reduceToNat, Int.reduceAdd, Int.reduceLT, Int.reduceLE, Int.reduceEq, Int.reduceNeg, Int.reduceMul, Int.reduceSub, Nat.reduceSub, reduceIte, ite_true, ite_false, and_true, true_and, and_self, v0, h1, eb, show ((0 : Nat) : Int) = 0 from rfl, m107_24 h105, eS, c', if_false]
        exact this
    · rw [h2] at eb
      have ec : okB t H n k S b = false := by unfold okB; rw [decide_eq_false (by omega)]; rfl
      rw [ec]
      rw [s107_2]
      simp (disch := omega) only [s107_3, m107_4, m107_7, s107_10, s107_13, s107_14, s107_15, s107_16, s107_17, s107_18, s107_18b, s107_21, s107_22, s107_23, s107_27, m107_28, s107_31, m107_32, s107_33, s107_33b, s107_36, s107_37, s107_38, s107_41, s107_44, s107_46, Int.toNat_natCast, Int.toNat_natCast, Nat.reduceAdd, Nat.reduceMul, Int.reduceToNat, Int.reduceAdd, Int.reduceLT, Int.reduceLE, Int.reduceEq, Int.reduceNeg, Int.reduceMul, Int.reduceSub, Nat.reduceSub, reduceIte, ite_true, ite_false, and_true, true_and, and_self, v0, h1, eb, show ((1 : Nat) : Int) = 1 from rfl]
      exact this
theorem sp107 {d u n N L : Nat} {t g : Int} {cl : List (Int × List Int)} {B : q_Bv} {G H : q_Gi} {S k : Nat} (hd : 6 ≤ d) (hv : hv1 G H) (ho : Hok H) (hu : G 1 8 = (u : Int)) (hU : upl B N u t g cl) (hn : H 0 0 = (n : Int)) (hS : S < 2 ^ n) (hk : n - pcN S = k + 1) (hg : rgd t H n 0 G) : Sp d 107 [.ref 0, vI S] (hp N L B G) (some (vI (fbN t H n k S))) (hp N L B G) := by
  have hn6 : n ≤ 6 := by have := ho.1; omega
  refine e107 (by omega) ?_
  simp (disch := omega) only [s107_0, s107_1, Int.toNat_natCast, Int.toNat_natCast, Nat.reduceAdd, Nat.reduceMul, Int.reduceToNat, Int.reduceAdd, Int.reduceLT, Int.reduceLE, Int.reduceEq, Int.reduceNeg, Int.reduceMul, Int.reduceSub, Nat.reduceSub, reduceIte, ite_true, ite_false, and_true, true_and, and_self]
  have := lp107 (d := d - 1) (L := L) (by omega) hv ho hu hU hn hS hk hg n 0 (by omega)
  obtain ⟨b, e, _⟩ := fb_ex (t := t) (H := H) (n := n) (k := k) (S := S) (by omega) hS hk
  unfold fbN
  rw [e] at this ⊢
  exact this
/-- the first of the best orders behind S -/
def grL (t : Int) (H : q_Gi) (n : Nat) : Nat → Nat → List Nat
  | 0, _ => []
  | k + 1, S => fbN t H n k S :: grL t H n k (S + 2 ^ fbN t H n k S)
theorem lp106 {d u n w N L : Nat} {t g : Int} {cl : List (Int × List Int)} {B : q_Bv} {G H : q_Gi} (hd : 6 ≤ d) (hv : hv1 G H) (ho : Hok H) (hu : G 1 8 = (u : Int)) (hU : upl B N u t g cl) (hn : H 0 0 = (n : Int)) (hw : w < n) (hg : rgd t H n 0 G) : ∀ (r i S k : Nat) (la : Int), i + r = w → S < 2 ^ n → n - pcN S = k + 1 → pcN S = i → WP d 106 8 [.ref 0, vI w, vI S, vI la, vI i] [] (hp N L B G) (fun r1 X1 => r1 = some (vI (((grL t H n (k + 1) S).getD r 0 : Nat) : Int)) ∧ X1 = hp N L B G) := by
  have hn6 : n ≤ 6 := by have := ho.1; omega
  have hpf := pc_full n (by omega)
  intro r
  induction r with
  | zero =>
    intro i S k la hi hS hk hp
    have h107 := sp107 (d := d) (L := L) (B := B) hd hv ho hu hU hn hS hk hg
    obtain ⟨b, e, hb, hb0, _⟩ := fb_ex (t := t) (H := H) (n := n) (k := k) (S := S) (by omega) hS hk
    have ef : fbN t H n k S = b := by unfold fbN; rw [e]; rfl
    have h1 : ¬ (w : Int) < (i : Int) := by omega
    have h2 : (w : Int) < (i : Int) + 1 := by omega
    have hb1 : ¬ (b : Int) < 0 := by omega
    have eg : (grL t H n (k + 1) S).getD 0 0 = b := by unfold grL; rw [ef]; rfl
    have ebs := bit_s (n := n) (S := S) (b := b) (by omega) (by omega) hS (by omega) hb hb0
    rw [ef] at h107
    rw [eg]
    simp (disch := omega) only [s106_0, s106_1, s106_2, s106_4, s106_5, s106_6, s106_8, s106_10, s106_11, s106_14, s106_15, s106_19, s106_20, s106_21, s106_24, s106_26, s106_27, s106_28, s106_29, s106_30, s106_31, s106_32, s106_33, s106_36, s106_39, s106_40, Int.toNat_natCast, Int.toNat_natCast, Nat.reduceAdd, Nat.reduceMul, Int.reduceToNat, Int.reduceAdd, Int.reduceLT, Int.reduceLE, Int.reduceEq, Int.reduceNeg, Int.reduceMul, Int.reduceSub, Nat.reduceSub, reduceIte, ite_true, ite_false, and_true, true_and, and_self, h1, h2, hb1, m106_16 h107, ebs]
  | succ r ih =>
    intro i S k la hi hS hk hp
    have h107 := sp107 (d := d) (L := L) (B := B) hd hv ho hu hU hn hS hk hg
    obtain ⟨b, e, hb, hb0, _⟩ := fb_ex (t := t) (H := H) (n := n) (k := k) (S := S) (by omega) hS hk
    have ef : fbN t H n k S = b := by unfold fbN; rw [e]; rfl
    have h1 : ¬ (w : Int) < (i : Int) := by omega
    have ebs := bit_s (n := n) (S := S) (b := b) (by omega) (by omega) hS (by omega) hb hb0
    have hbo := bit_ok n (by omega) S (by omega) b (by omega) hS hb hb0
    obtain ⟨k', rfl⟩ : ∃ k', k = k' + 1 := ⟨k - 1, by omega⟩
    have := ih (i + 1) (S + 2 ^ b) k' (b : Int) (by omega) hbo.1 (by omega) (by omega)
    have eg : (grL t H n (k' + 1 + 1) S).getD (r + 1) 0 = (grL t H n (k' + 1) (S + 2 ^ b)).getD r 0 := by
      rw [show grL t H n (k' + 1 + 1) S = fbN t H n (k' + 1) S :: grL t H n (k' + 1) (S + 2 ^ fbN t H n (k' + 1) S) from rfl, ef]
      rfl
    rw [ef] at h107
    rw [eg]
    rw [s106_8]
    simp (disch := omega) only [s106_10, s106_11, s106_14, s106_15, s106_19, s106_20, s106_21, s106_24, s106_26, s106_27, s106_28, s106_29, s106_30, s106_31, s106_32, s106_33, s106_36, s106_39, s106_40, Int.toNat_natCast, Int.toNat_natCast, Nat.reduceAdd, Nat.reduceMul, Int.reduceToNat, Int.reduceAdd, Int.reduceLT, Int.reduceLE, Int.reduceEq, Int.reduceNeg, Int.reduceMul, Int.reduceSub, Nat.reduceSub, reduceIte, ite_true, ite_false, and_true, true_and, and_self, h1, m106_16 h107, ebs]
    exact this
def ringS (t : Int) (H : q_Gi) (w : Int) : Int := if w < -1 ∨ 6 ≤ w then -1 else if H 0 0 ≤ w then -5 else if w < 0 then VS t H (H 0 0).toNat (H 0 0).toNat 0 else (((grL t H (H 0 0).toNat (H 0 0).toNat 0).getD w.toNat 0 : Nat) : Int)
theorem sp71 {d u N L : Nat} {t g w : Int} {cl : List (Int × List Int)} {B : q_Bv} {G H : q_Gi} (hd : 8 ≤ d) (hv : hv1 G H) (ho : Hok H) (hu : G 1 8 = (u : Int)) (hU : upl B N u t g cl) (hw : -2147483648 ≤ w ∧ w ≤ 2147483647) : ∃ G', Sp d 71 [.ref 0, vI w] (hp N L B G) (some (vI (ringS t H w))) (hp N L B G') ∧ qf G G' := by
  obtain ⟨n, hn⟩ : ∃ n : Nat, H 0 0 = (n : Int) := ⟨(H 0 0).toNat, by have := ho.1; omega⟩
  have hn6 : n ≤ 6 := by have := ho.1; omega
  have hpf := pc_full n (by omega)
  have v0 := hv.1
  rw [hn] at v0
  unfold ringS
  rw [hn, Int.toNat_natCast]
  by_cases c1 : w < -1
  · refine ⟨G, ?_, qf_r G⟩
    rw [if_pos (Or.inl c1)]
    refine e71 (by omega) ?_
    simp (disch := omega) only [s71_0, s71_1, s71_2, s71_5, s71_6, s71_8, s71_11, s71_12, s71_13, s71_14, m71_15, m71_18, s71_21, s71_24, s71_26, s71_27, s71_31, s71_32, s71_35, m71_36, s71_39, m71_40, s71_41, s71_44, s71_45, s71_49, Int.toNat_natCast, Int.toNat_natCast, Nat.reduceAdd, Nat.reduceMul, Int.reduceToNat, Int.reduceAdd, Int.reduceLT, Int.reduceLE, Int.reduceEq, Int.reduceNeg, Int.reduceMul, Int.reduceSub, Nat.reduceSub, reduceIte, ite_true, ite_false, and_true, true_and, and_self, c1]
  by_cases c2 : 6 ≤ w
  · refine ⟨G, ?_, qf_r G⟩
    have c3 : ¬ w < 6 := by omega
    rw [if_pos (Or.inr c2)]
    refine e71 (by omega) ?_
    simp (disch := omega) only [s71_0, s71_1, s71_2, s71_5, s71_6, s71_8, s71_11, s71_12, s71_13, s71_14, m71_15, m71_18, s71_21, s71_24, s71_26, s71_27, s71_31, s71_32, s71_35, m71_36, s71_39, m71_40, s71_41, s71_44, s71_45, s71_49, Int.toNat_natCast, Int.toNat_natCast, Nat.reduceAdd, Nat.reduceMul, Int.reduceToNat, Int.reduceAdd, Int.reduceLT, Int.reduceLE, Int.reduceEq, Int.reduceNeg, Int.reduceMul, Int.reduceSub, Nat.reduceSub, reduceIte, ite_true, ite_false, and_true, true_and, and_self, c1, c3]
  have c2' : w < 6 := by omega
  rw [if_neg (by omega)]
  by_cases c3 : (n : Int) ≤ w
  · refine ⟨G, ?_, qf_r G⟩
    have c4 : ¬ w < (n : Int) := by omega
    rw [if_pos c3]
    refine e71 (by omega) ?_
    simp (disch := omega) only [s71_0, s71_1, s71_2, s71_5, s71_6, s71_8, s71_11, s71_12, s71_13, s71_14, m71_15, m71_18, s71_21, s71_24, s71_26, s71_27, s71_31, s71_32, s71_35, m71_36, s71_39, m71_40, s71_41, s71_44, s71_45, s71_49, Int.toNat_natCast, Int.toNat_natCast, Nat.reduceAdd, Nat.reduceMul, Int.reduceToNat, Int.reduceAdd, Int.reduceLT, Int.reduceLE, Int.reduceEq, Int.reduceNeg, Int.reduceMul, Int.reduceSub, Nat.reduceSub, reduceIte, ite_true, ite_false, and_true, true_and, and_self, c1, c2', v0, c4]
  have c4 : w < (n : Int) := by omega
  rw [if_neg c3]
  obtain ⟨G', h104, hg, fr⟩ := sp104 (d := d - 1) (L := L) (by omega) hv ho hu hU hn
  refine ⟨G', ?_, fun a ha => fr a (by omega)⟩
  have hv' : hv1 G' H := hv1_f hv (fun a _ _ => fr a (by omega))
  by_cases c5 : w < 0
  · rw [if_pos c5]
    have e0 := hg 0 (by omega) hpf.2.2.2
    rw [show n - pcN 0 = n from Nat.sub_zero n] at e0
    refine e71 (by omega) ?_
    simp (disch := omega) only [s71_0, s71_1, s71_2, s71_5, s71_6, s71_8, s71_11, s71_12, s71_13, s71_14, m71_15, m71_18, s71_21, s71_24, s71_26, s71_27, s71_31, s71_32, s71_35, m71_36, s71_39, m71_40, s71_41, s71_44, s71_45, s71_49, Int.toNat_natCast, Int.toNat_natCast, Nat.reduceAdd, Nat.reduceMul, Int.reduceToNat, Int.reduceAdd, Int.reduceLT, Int.reduceLE, Int.reduceEq, Int.reduceNeg, Int.reduceMul, Int.reduceSub, Nat.reduceSub, reduceIte, ite_true, ite_false, and_true, true_and, and_self, c1, c2', v0, c4, m71_28 h104, c5, e0]
  · rw [if_neg c5]
    obtain ⟨m, rfl⟩ : ∃ m : Nat, w = (m : Int) := ⟨w.toNat, by omega⟩
    obtain ⟨k, rfl⟩ : ∃ k, n = k + 1 := ⟨n - 1, by omega⟩
    have h106 : Sp (d - 1) 106 [.ref 0, vI m] (hp N L B G') (some (vI (((grL t H (k + 1) (k + 1) 0).getD m 0 : Nat) : Int))) (hp N L B G') := by
      refine e106 (by omega) ?_
      simp (disch := omega) only [s106_0, s106_1, s106_2, s106_4, s106_5, s106_6, Int.toNat_natCast, Int.toNat_natCast, Nat.reduceAdd, Nat.reduceMul, Int.reduceToNat, Int.reduceAdd, Int.reduceLT, Int.reduceLE, Int.reduceEq, Int.reduceNeg, Int.reduceMul, Int.reduceSub, Nat.reduceSub, reduceIte, ite_true, ite_false, and_true, true_and, and_self]
      exact lp106 (d := d - 1 - 1) (L := L) (by omega) hv' ho (by rw [fr 1 (by omega)]; exact hu) hU hn (by omega) hg m 0 0 k (-5) (by omega) hpf.2.2.2 rfl rfl
    refine e71 (by omega) ?_
    simp (disch := omega) only [s71_0, s71_1, s71_2, s71_5, s71_6, s71_8, s71_11, s71_12, s71_13, s71_14, m71_15, m71_18, s71_21, s71_24, s71_26, s71_27, s71_31, s71_32, s71_35, m71_36, s71_39, m71_40, s71_41, s71_44, s71_45, s71_49, Int.toNat_natCast, Int.toNat_natCast, Nat.reduceAdd, Nat.reduceMul, Int.reduceToNat, Int.reduceAdd, Int.reduceLT, Int.reduceLE, Int.reduceEq, Int.reduceNeg, Int.reduceMul, Int.reduceSub, Nat.reduceSub, reduceIte, ite_true, ite_false, and_true, true_and, and_self, c1, c2', v0, c4, m71_28 h104, c5, m71_46 h106]
