/-! the class's calls: odds, mean, towers -/
def oddS (t : Int) (cl : List (Int × List Int)) (H : q_Gi) (b e : Nat) : Bool := tunedS t (H 1 b) (H 2 b) (min 99 (H 3 b + fillS cl H b e (H 3 b)))
/-- (in tune by, in all) of the first n foods -/
def odS (t : Int) (cl : List (Int × List Int)) (H : q_Gi) (b : Nat) : Nat → Int × Int
  | 0 => (0, 0)
  | n + 1 => ((odS t cl H b n).1 + (if oddS t cl H b n = true then H 5 n else 0), (odS t cl H b n).2 + H 5 n)
theorem odS_r {t : Int} {cl : List (Int × List Int)} {H : q_Gi} {b : Nat} (ho : Hok H) : ∀ n : Nat, n ≤ 4 → (0 ≤ (odS t cl H b n).1 ∧ (odS t cl H b n).1 ≤ 99 * (n : Int)) ∧ (0 ≤ (odS t cl H b n).2 ∧ (odS t cl H b n).2 ≤ 99 * (n : Int)) := by
  intro n
  induction n with
  | zero => intro _; simp only [odS]; omega
  | succ n ih =>
    intro hn
    have h1 := ih (by omega)
    have h5 := ho.2.2.2.2.2.1 n (by omega)
    simp only [odS]
    split <;> omega
theorem lp77 {d u N L b : Nat} {t g w : Int} {cl : List (Int × List Int)} {B : q_Bv} {H : q_Gi} (hd : 6 ≤ d) (hU : upl B N u t g cl) (hb : b < 6) (ho : Hok H) {Q : Option Value → q_H → Prop} : ∀ (m k : Nat) (G : q_Gi) (x : Value), k + m = 4 → hv1 G H → G 1 8 = (u : Int) → nL x = true → (∀ G' x', (∀ a, a ≠ 7 → G' a = G a) → WP d 77 90 [.ref 0, vI b, vI w, vI (odS t cl H b 4).1, vI (odS t cl H b 4).2, vI 4, x'] [] (hp N L B G') Q) → WP d 77 20 [.ref 0, vI b, vI w, vI (odS t cl H b k).1, vI (odS t cl H b k).2, vI k, x] [] (hp N L B G) Q := by
  intro m
  induction m with
  | zero =>
    intro k G x hk hv hu hx hQ
    have hk4 : k = 4 := by omega
    subst hk4
    have := hQ G x (fun _ _ => rfl)
    simp (disch := omega) only [s77_20, s77_22, s77_23, Int.toNat_natCast, Int.toNat_natCast, Nat.reduceAdd, Nat.reduceMul, Int.reduceToNat, Int.reduceAdd, Int.reduceLT, Int.reduceLE, Int.reduceEq, Int.reduceNeg, Int.reduceMul, Int.reduceSub, Nat.reduceSub, reduceIte, ite_true, ite_false, and_true, true_and, and_self, show ((4 : Nat) : Int) = 4 from rfl]
    exact this
  | succ m ih =>
    intro k G x hk hv hu hx hQ
    have hlt : ((k : Int) < 4) := by omega
    have hok' := hok1_v hv ho
    have h3 := ho.2.2.2.1 b hb
    have h5 := ho.2.2.2.2.2.1 k (by omega)
    obtain ⟨G1, h12, f12⟩ := sp12_1 (d := d) (L := L) (b := b) (f := k) (fd := H 3 b) (by omega) hok' hu hU hb (by omega) (by omega)
    rw [hv.2.2.2.1 b hb, hv.2.2.2.2.1 b hb, hv.2.1] at h12
    change Sp d 12 _ _ (some (vI (min 99 (H 3 b + fillS cl H b k (H 3 b))))) _ at h12
    have rf := @fillsS_r cl B N u t g (H 1 b) (H 2 b) b k (H 3 b) (H 0 1) hU (by omega) (ho.2.2.1 b hb)
    have rf2 : 0 ≤ fillS cl H b k (H 3 b) ∧ fillS cl H b k (H 3 b) ≤ 3000 := rf
    have hv' : hv1 G1 H := hv1_f hv (fun a h1 h2 => f12 a (by omega))
    have hu' : G1 1 8 = (u : Int) := by rw [f12 1 (by omega)]; exact hu
    have h9 := sp9_1 (d := d) (L := L) (f := min 99 (H 3 b + fillS cl H b k (H 3 b))) (by omega) (hok1_v hv' ho) hu' hU hb (by omega)
    rw [hv'.2.2.2.1 b hb, hv'.2.2.2.2.1 b hb] at h9
    change Sp d 9 _ _ (some (vI (bI (oddS t cl H b k = true)))) _ at h9
    have := ih (k + 1) G1 (vI (H 5 k)) (by omega) hv' hu' rfl (fun G' x' hG' => hQ G' x' (fun a ha => by rw [hG' a ha, f12 a ha]))
    rw [show ((k + 1 : Nat) : Int) = (k : Int) + 1 from rfl] at this
    have e1 : (odS t cl H b (k + 1)).1 = (odS t cl H b k).1 + (if oddS t cl H b k = true then H 5 k else 0) := rfl
    have e2 : (odS t cl H b (k + 1)).2 = (odS t cl H b k).2 + H 5 k := rfl
    rw [e1, e2] at this
    rw [s77_20]
    simp (disch := first | omega | assumption) only [s77_22, s77_23, s77_26, m77_27, m77_30, s77_33, m77_35, s77_36, s77_38, s77_40, s77_42, s77_43, s77_45, s77_46, m77_47, s77_50, s77_51, m77_52, s77_55, s77_56, s77_58, m77_59, m77_62, s77_65, m77_66, s77_73, s77_73b, s77_76, s77_78, s77_81, s77_82, s77_83, s77_84, s77_87, Int.toNat_natCast, Int.toNat_natCast, Nat.reduceAdd, Nat.reduceMul, Int.reduceToNat, Int.reduceAdd, Int.reduceLT, Int.reduceLE, Int.reduceEq, Int.reduceNeg, Int.reduceMul, Int.reduceSub, Nat.reduceSub, reduceIte, ite_true, ite_false, and_true, true_and, and_self, hlt, hv.2.2.2.2.2.1 b hb, hv.2.2.2.2.2.2.2 k (by omega), m77_67 h12, m77_70 h9]
    by_cases c : oddS t cl H b k = true
    · rw [if_pos c]
      rw [if_pos c] at this
      exact this
    · rw [if_neg c]
      rw [if_neg c] at this
      exact this
def r77 (t : Int) (cl : List (Int × List Int)) (H : q_Gi) (b w : Int) : Int := if 0 ≤ b ∧ b < H 0 0 then fracS (odS t cl H b.toNat 4).1.toNat (odS t cl H b.toNat 4).2.toNat w else -9223372036854775808
theorem sp77 {d u N L : Nat} {t g b w : Int} {cl : List (Int × List Int)} {B : q_Bv} {G H : q_Gi} (hd : 8 ≤ d) (hv : hv1 G H) (ho : Hok H) (hu : G 1 8 = (u : Int)) (hU : upl B N u t g cl) (hb : -2147483648 ≤ b ∧ b ≤ 2147483647) (hw : -2147483648 ≤ w ∧ w ≤ 2147483647) : ∃ G', Sp d 77 [.ref 0, vI b, vI w] (hp N L B G) (some (vL (r77 t cl H b w))) (hp N L B G') ∧ qf G G' := by
  have hv0 := hv.1
  have hc := ho.1
  have h94 := sp94 (d := d - 1) (N := N) (L := L) (B := B) (G := G) (by omega) hb (by rw [hv0]; exact ho.1)
  rw [hv0] at h94
  by_cases c1 : 0 ≤ b ∧ b < H 0 0
  · obtain ⟨k, rfl⟩ : ∃ k : Nat, b = (k : Int) := ⟨b.toNat, by omega⟩
    obtain ⟨r, X', hS, G', hr, hX, hq⟩ := E77 (d := d) (X := hp N L B G) (z1 := (k : Int)) (z2 := w) (Q := fun r X => ∃ G', r = some (vL (r77 t cl H k w)) ∧ X = hp N L B G' ∧ qf G G') (by omega) (by
      have lp := lp77 (d := d - 1) (u := u) (N := N) (L := L) (t := t) (g := g) (w := w) (cl := cl) (B := B) (b := k) (by omega) hU (by omega) ho (Q := fun r X => ∃ G', r = some (vL (r77 t cl H k w)) ∧ X = hp N L B G' ∧ qf G G') 4 0 G .null (by omega) hv hu rfl (fun G' x' hG' => by
        have rr := @odS_r t cl H k ho 4 (by omega)
        obtain ⟨a1, ha1⟩ : ∃ a1 : Nat, (odS t cl H k 4).1 = (a1 : Int) := ⟨(odS t cl H k 4).1.toNat, by omega⟩
        obtain ⟨a2, ha2⟩ : ∃ a2 : Nat, (odS t cl H k 4).2 = (a2 : Int) := ⟨(odS t cl H k 4).2.toNat, by omega⟩
        have h102 := sp102 (d := d - 1) (a := a1) (b := a2) (p := w) (X := hp N L B G') (by omega) (by omega) (by omega) hw
        rw [ha1, ha2]
        simp (disch := omega) only [s77_90, s77_91, s77_93, s77_97, Int.toNat_natCast, Int.toNat_natCast, Nat.reduceAdd, Nat.reduceMul, Int.reduceToNat, Int.reduceAdd, Int.reduceLT, Int.reduceLE, Int.reduceEq, Int.reduceNeg, Int.reduceMul, Int.reduceSub, Nat.reduceSub, reduceIte, ite_true, ite_false, and_true, true_and, and_self, c77_94 h102]
        refine ⟨G', ?_, rfl, fun a ha => hG' a (by omega)⟩
        unfold r77
        rw [if_pos c1, Int.toNat_natCast, ha1, ha2, Int.toNat_natCast, Int.toNat_natCast])
      simp (disch := omega) only [s77_0, s77_1, s77_5, s77_5b, s77_8, s77_11, s77_12, s77_13, s77_14, s77_15, s77_17, s77_18, Int.toNat_natCast, Int.toNat_natCast, Nat.reduceAdd, Nat.reduceMul, Int.reduceToNat, Int.reduceAdd, Int.reduceLT, Int.reduceLE, Int.reduceEq, Int.reduceNeg, Int.reduceMul, Int.reduceSub, Nat.reduceSub, reduceIte, ite_true, ite_false, and_true, true_and, and_self, m77_2 h94, c1]
      exact lp)
    exact ⟨G', by rw [hr, hX] at hS; exact hS, hq⟩
  · refine ⟨G, ?_, qf_r G⟩
    refine e77 (by omega) ?_
    simp (disch := omega) only [s77_0, s77_1, s77_5, s77_5b, s77_8, s77_11, Int.toNat_natCast, Int.toNat_natCast, Nat.reduceAdd, Nat.reduceMul, Int.reduceToNat, Int.reduceAdd, Int.reduceLT, Int.reduceLE, Int.reduceEq, Int.reduceNeg, Int.reduceMul, Int.reduceSub, Nat.reduceSub, reduceIte, ite_true, ite_false, and_true, true_and, and_self, m77_2 h94, c1, r77]
/-- fed of the first n together -/
def sumfS (H : q_Gi) : Nat → Int
  | 0 => 0
  | n + 1 => sumfS H n + H 3 n
theorem sumfS_r {H : q_Gi} (ho : Hok H) : ∀ n : Nat, n ≤ 6 → 0 ≤ sumfS H n ∧ sumfS H n ≤ 99 * (n : Int) := by
  intro n
  induction n with
  | zero => intro _; simp only [sumfS]; omega
  | succ n ih =>
    intro hn
    have h1 := ih (by omega)
    have h5 := ho.2.2.2.1 n (by omega)
    simp only [sumfS]
    omega
def r78 (g : Int) (H : q_Gi) (n w : Int) : Int := if 0 ≤ n ∧ n ≤ 60 then fracS (sumfS (daysS g n.toNat H) (H 0 0).toNat).toNat (H 0 0).toNat w else -9223372036854775808
theorem lp78 {d N L n : Nat} {z w : Int} {B : q_Bv} {G H : q_Gi} (hv : hv8 G H) (ho : Hok H) (hn : H 0 0 = (n : Int)) {Q : Option Value → q_H → Prop} (hQ : WP d 78 54 [.ref 0, vI z, vI w, vI (sumfS H n), vI n] [] (hp N L B G) Q) : ∀ (m k : Nat), k + m = n → WP d 78 23 [.ref 0, vI z, vI w, vI (sumfS H k), vI k] [] (hp N L B G) Q := by
  intro m
  have hn6 : n ≤ 6 := by have := ho.1; omega
  induction m with
  | zero =>
    intro k hk
    have hk4 : k = n := by omega
    subst hk4
    have hlt : ¬ ((k : Int) < (k : Int)) := by omega
    simp (disch := omega) only [s78_23, s78_25, m78_26, m78_29, s78_32, Int.toNat_natCast, Int.toNat_natCast, Nat.reduceAdd, Nat.reduceMul, Int.reduceToNat, Int.reduceAdd, Int.reduceLT, Int.reduceLE, Int.reduceEq, Int.reduceNeg, Int.reduceMul, Int.reduceSub, Nat.reduceSub, reduceIte, ite_true, ite_false, and_true, true_and, and_self, hv.1, hn, hlt]
    exact hQ
  | succ m ih =>
    intro k hk
    have hlt : ((k : Int) < (n : Int)) := by omega
    have := ih (k + 1) (by omega)
    rw [show ((k + 1 : Nat) : Int) = (k : Int) + 1 from rfl] at this
    rw [s78_23]
    simp (disch := first | omega | assumption) only [s78_25, m78_26, m78_29, s78_32, s78_35, s78_36, m78_37, m78_40, s78_43, m78_45, s78_46, s78_47, s78_48, s78_51, Int.toNat_natCast, Int.toNat_natCast, Nat.reduceAdd, Nat.reduceMul, Int.reduceToNat, Int.reduceAdd, Int.reduceLT, Int.reduceLE, Int.reduceEq, Int.reduceNeg, Int.reduceMul, Int.reduceSub, Nat.reduceSub, reduceIte, ite_true, ite_false, and_true, true_and, and_self, hv.1, hn, hlt, hv.2.2.2.2.2.1 k (by omega)]
    exact this
theorem sp78 {d u N L : Nat} {t g n w : Int} {cl : List (Int × List Int)} {B : q_Bv} {G H : q_Gi} (hd : 8 ≤ d) (hv : hv1 G H) (ho : Hok H) (hday : H 0 1 ≤ 9999) (hu : G 1 8 = (u : Int)) (hU : upl B N u t g cl) (hn : -2147483648 ≤ n ∧ n ≤ 2147483647) (hw : -2147483648 ≤ w ∧ w ≤ 2147483647) : ∃ G', Sp d 78 [.ref 0, vI n, vI w] (hp N L B G) (some (vL (r78 g H n w))) (hp N L B G') ∧ qf G G' := by
  have h98 := sp98 (d := d - 1) (z := n) (m := 60) (X := hp N L B G) (by omega) hn (by omega)
  by_cases c1 : 0 ≤ n ∧ n ≤ 60
  · obtain ⟨k, rfl⟩ : ∃ k : Nat, n = (k : Int) := ⟨n.toNat, by omega⟩
    obtain ⟨G1, h100, w100, o100, u100, f100⟩ := sp100 (d := d - 1) (L := L) (n := k) (by omega) (by omega) hv ho (by omega) hu hU
    obtain ⟨c, hc⟩ : ∃ c : Nat, H 0 0 = (c : Int) := ⟨(H 0 0).toNat, by have := ho.1; omega⟩
    have hc2 : daysS g k H 0 0 = (c : Int) := by rw [daysS_cnt]; exact hc
    have hc6 : c ≤ 6 := by have := ho.1; omega
    have sr := sumfS_r o100 c hc6
    obtain ⟨s, hs⟩ : ∃ s : Nat, sumfS (daysS g k H) c = (s : Int) := ⟨(sumfS (daysS g k H) c).toNat, by omega⟩
    refine ⟨G1, ?_, fun a ha => f100 a (by omega)⟩
    refine e78 (by omega) ?_
    have h102 := sp102 (d := d - 1) (a := s) (b := c) (p := w) (X := hp N L B G1) (by omega) (by omega) (by omega) hw
    have er : r78 g H k w = fracS s c w := by
      unfold r78
      rw [if_pos c1, hc, Int.toNat_natCast, Int.toNat_natCast, hs, Int.toNat_natCast]
    have lp := lp78 (d := d - 1) (N := N) (L := L) (z := (k : Int)) (w := w) (B := B) w100 o100 hc2 (Q := fun r1 X1 => r1 = some (vL (r78 g H k w)) ∧ X1 = hp N L B G1) (by
      rw [hs]
      simp (disch := omega) only [s78_54, s78_55, m78_56, m78_59, s78_62, s78_66, Int.toNat_natCast, Int.toNat_natCast, Nat.reduceAdd, Nat.reduceMul, Int.reduceToNat, Int.reduceAdd, Int.reduceLT, Int.reduceLE, Int.reduceEq, Int.reduceNeg, Int.reduceMul, Int.reduceSub, Nat.reduceSub, reduceIte, ite_true, ite_false, and_true, true_and, and_self, w100.1, hc2, c78_63 h102, er]) c 0 (by omega)
    simp (disch := omega) only [s78_0, s78_1, s78_6, s78_6b, s78_9, s78_12, s78_13, s78_14, s78_18, s78_19, s78_20, s78_21, Int.toNat_natCast, Int.toNat_natCast, Nat.reduceAdd, Nat.reduceMul, Int.reduceToNat, Int.reduceAdd, Int.reduceLT, Int.reduceLE, Int.reduceEq, Int.reduceNeg, Int.reduceMul, Int.reduceSub, Nat.reduceSub, reduceIte, ite_true, ite_false, and_true, true_and, and_self, c78_3 h98, c1, m78_15 h100]
    exact lp
  · refine ⟨G, ?_, qf_r G⟩
    refine e78 (by omega) ?_
    simp (disch := omega) only [s78_0, s78_1, s78_6, s78_6b, s78_9, s78_12, Int.toNat_natCast, Int.toNat_natCast, Nat.reduceAdd, Nat.reduceMul, Int.reduceToNat, Int.reduceAdd, Int.reduceLT, Int.reduceLE, Int.reduceEq, Int.reduceNeg, Int.reduceMul, Int.reduceSub, Nat.reduceSub, reduceIte, ite_true, ite_false, and_true, true_and, and_self, c78_3 h98, c1, r78]
/-- towers: of the next m sets (this one is s, then s + 2 ..) -/
def towS (v : Nat → Int) (n : Nat) : Nat → Nat → Int → Int → Int
  | 0, _, best, _ => best
  | m + 1, s, best, least => if ((apS v s n).natAbs : Int) < least then towS v n m (s + 2) s ((apS v s n).natAbs : Int) else towS v n m (s + 2) best least
def r74 (H : q_Gi) : Int := towS (H 2) (H 0 0).toNat (2 ^ ((H 0 0).toNat) / 2) 1 (-5) 2147483647
theorem lp74 {d N L n : Nat} {B : q_Bv} {G H : q_Gi} (hd : 1 ≤ d) (hv : hv1 G H) (ho : Hok H) (hn : H 0 0 = (n : Int)) {R : Int} : ∀ (m s : Nat) (best least : Int) (x : Value), s % 2 = 1 → s + 2 * m = 2 ^ n + 1 ∨ (m = 0 ∧ 2 ^ n ≤ s) → s ≤ 100 → 0 ≤ least ∧ least ≤ 2147483647 → nL x = true → towS (H 2) n m s best least = R → WP d 74 8 [.ref 0, vI best, vI least, vI s, x] [] (hp N L B G) (fun r1 X1 => r1 = some (vI R) ∧ X1 = hp N L B G) := by
  intro m
  have hn6 : n ≤ 6 := by have := ho.1; omega
  have h64 : 2 ^ n ≤ 64 := Nat.pow_le_pow_right (n := 2) (by decide) hn6
  have e2 : ishl 1 (n : Int) = ((2 ^ n : Nat) : Int) := by
    have := @ishl_n 1 n (by omega) (by omega)
    rw [show ((1 : Nat) : Int) = 1 from rfl, Nat.one_mul] at this
    exact this
  generalize hpw : 2 ^ n = p at h64 e2 ⊢
  induction m with
  | zero =>
    intro s best least x ho1 hs hs2 hl hx hR
    have hlt : ¬ ((s : Int) < (p : Int)) := by omega
    simp (disch := omega) only [s74_8, s74_9, s74_10, m74_11, m74_14, s74_17, s74_18, s74_48, s74_49, Int.toNat_natCast, Int.toNat_natCast, Nat.reduceAdd, Nat.reduceMul, Int.reduceToNat, Int.reduceAdd, Int.reduceLT, Int.reduceLE, Int.reduceEq, Int.reduceNeg, Int.reduceMul, Int.reduceSub, Nat.reduceSub, reduceIte, ite_true, ite_false, and_true, true_and, and_self, hv.1, hn, e2, hlt]
    simp only [towS] at hR
    rw [hR]
  | succ m ih =>
    intro s best least x ho1 hs hs2 hl hx hR
    have hlt : ((s : Int) < (p : Int)) := by omega
    have h17 := sp17 (d := d) (N := N) (L := L) (s := s) (B := B) hd hv ho hn (by omega)
    have ra := @apS_r (H 2) s ho.2.2.1 n hn6
    rw [s74_8]
    simp (disch := first | omega | assumption) only [s74_9, s74_10, m74_11, m74_14, s74_17, s74_18, s74_21, m74_22, s74_25, s74_29, s74_31, s74_33, s74_34, Int.toNat_natCast, Int.toNat_natCast, Nat.reduceAdd, Nat.reduceMul, Int.reduceToNat, Int.reduceAdd, Int.reduceLT, Int.reduceLE, Int.reduceEq, Int.reduceNeg, Int.reduceMul, Int.reduceSub, Nat.reduceSub, reduceIte, ite_true, ite_false, and_true, true_and, and_self, hv.1, hn, e2, hlt, m74_26 h17]
    simp only [towS] at hR
    by_cases c : ((apS (H 2) s n).natAbs : Int) < least
    · rw [if_pos c] at hR ⊢
      have := ih (s + 2) s ((apS (H 2) s n).natAbs : Int) (vI ((apS (H 2) s n).natAbs : Int)) (by omega) (by omega) (by omega) (by omega) rfl hR
      rw [show ((s + 2 : Nat) : Int) = (s : Int) + 2 from rfl] at this
      simp (disch := first | omega | assumption) only [s74_37, s74_39, s74_40, s74_41, s74_42, s74_45, Int.toNat_natCast, Int.toNat_natCast, Nat.reduceAdd, Nat.reduceMul, Int.reduceToNat, Int.reduceAdd, Int.reduceLT, Int.reduceLE, Int.reduceEq, Int.reduceNeg, Int.reduceMul, Int.reduceSub, Nat.reduceSub, reduceIte, ite_true, ite_false, and_true, true_and, and_self]
      exact this
    · rw [if_neg c] at hR ⊢
      have := ih (s + 2) best least (vI ((apS (H 2) s n).natAbs : Int)) (by omega) (by omega) (by omega) (by omega) rfl hR
      rw [show ((s + 2 : Nat) : Int) = (s : Int) + 2 from rfl] at this
      simp (disch := first | omega | assumption) only [s74_42, s74_45, Int.toNat_natCast, Int.toNat_natCast, Nat.reduceAdd, Nat.reduceMul, Int.reduceToNat, Int.reduceAdd, Int.reduceLT, Int.reduceLE, Int.reduceEq, Int.reduceNeg, Int.reduceMul, Int.reduceSub, Nat.reduceSub, reduceIte, ite_true, ite_false, and_true, true_and, and_self]
      exact this
theorem sp74 {d N L : Nat} {B : q_Bv} {G H : q_Gi} (hd : 2 ≤ d) (hv : hv1 G H) (ho : Hok H) : Sp d 74 [.ref 0] (hp N L B G) (some (vI (r74 H))) (hp N L B G) := by
  obtain ⟨n, hn⟩ : ∃ n : Nat, H 0 0 = (n : Int) := ⟨(H 0 0).toNat, by have := ho.1; omega⟩
  have hn6 : n ≤ 6 := by have := ho.1; omega
  refine e74 (by omega) ?_
  have lp := lp74 (d := d - 1) (N := N) (L := L) (B := B) (by omega) hv ho hn (R := r74 H) (2 ^ n / 2) 1 (-5) 2147483647 .null (by omega) (by
    cases n with
    | zero => right; decide
    | succ k => left; rw [Nat.pow_succ]; omega) (by omega) (by omega) rfl (by unfold r74; rw [hn]; rfl)
  simp (disch := omega) only [s74_0, s74_2, s74_3, s74_5, s74_6, s74_7, Int.toNat_natCast, Int.toNat_natCast, Nat.reduceAdd, Nat.reduceMul, Int.reduceToNat, Int.reduceAdd, Int.reduceLT, Int.reduceLE, Int.reduceEq, Int.reduceNeg, Int.reduceMul, Int.reduceSub, Nat.reduceSub, reduceIte, ite_true, ite_false, and_true, true_and, and_self]
  exact lp
