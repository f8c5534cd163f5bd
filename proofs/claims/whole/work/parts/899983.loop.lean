/-! the law's loop; the start; what is left to show -/
def fin (L : Nat) (r : Option Value) (X : q_H) : Prop := r = some (vI 1) ∧ X.1 ≤ 153
theorem INV_N {xs : Nat → Int32} {N : Nat} {B : q_Bv} {G : q_Gi} (h : INV xs N B G) : N ≤ 24 ∧ ∀ j, B 1000 j = vI (xs j).toInt := by
  obtain ⟨H, P, T, tl, n, nx, uc, a, th, rcs, s, I, J, ti, hc, hm, hp', hb⟩ := h
  have h1 := hc.2.2.2.2.2.1.1.1
  have h2 := hc.2.2.2.2.2.1.1.2.1
  exact ⟨by omega, hb⟩
set_option maxRecDepth 100000 in
theorem loop {d L : Nat} {xs : Nat → Int32} (hd : 40 ≤ d) (hL : L ≤ 3072) : ∀ (k i N : Nat) (B : q_Bv) (G : q_Gi), L < i + k + 6 → i ≤ 4000 → INV xs N B G → WP d 222 18 [.ref 1000, .ref 0, .ref 82, vI (i : Int)] [] (hp N L B G) (fin L) := by
  intro k
  induction k with
  | zero =>
    intro i N B G hk hi h
    have c : ((L : Int) - 6 < (i : Int)) := by omega
    have := (INV_N h).1
    have : fin L (some (vI 1)) (hp N L B G) := ⟨rfl, by show N + 129 ≤ 153; omega⟩
    simp (disch := omega) only [s222_18, s222_19, m222_20, s222_21, s222_23, s222_24, s222_1427, s222_1428, s222_1428b, Int.toNat_natCast, Int.toNat_natCast, Nat.reduceAdd, Nat.reduceMul, Int.reduceToNat, Int.reduceAdd, Int.reduceLT, Int.reduceLE, Int.reduceEq, Int.reduceNeg, Int.reduceMul, Int.reduceSub, Nat.reduceSub, reduceIte, ite_true, ite_false, and_true, true_and, and_self, c, if_true]
    exact this
  | succ k ih =>
    intro i N B G hk hi h
    obtain ⟨hN, hb⟩ := INV_N h
    by_cases c : ((L : Int) - 6 < (i : Int))
    · have : fin L (some (vI 1)) (hp N L B G) := ⟨rfl, by show N + 129 ≤ 153; omega⟩
      simp (disch := omega) only [s222_18, s222_19, m222_20, s222_21, s222_23, s222_24, s222_1427, s222_1428, s222_1428b, Int.toNat_natCast, Int.toNat_natCast, Nat.reduceAdd, Nat.reduceMul, Int.reduceToNat, Int.reduceAdd, Int.reduceLT, Int.reduceLE, Int.reduceEq, Int.reduceNeg, Int.reduceMul, Int.reduceSub, Nat.reduceSub, reduceIte, ite_true, ite_false, and_true, true_and, and_self, c, if_true]
      exact this
    · have hi6 : i + 6 ≤ L := by omega
      have hn : ∀ (N' : Nat) (B' : q_Bv) (G' : q_Gi), INV xs N' B' G' → WP d 222 1421 [.ref 1000, .ref 0, .ref 82, vI (i : Int)] [] (hp N' L B' G') (fin L) := by
        intro N' B' G' h'
        have := ih (i + 6) N' B' G' (by omega) (by omega) h'
        rw [s222_1421, s222_1424, show (i : Int) + 6 = ((i + 6 : Nat) : Int) by omega]
        exact this
      have cf := eq_false c
      have hz : -2147483648 ≤ iand (xs i).toInt 63 ∧ iand (xs i).toInt 63 ≤ 2147483647 := xr _
      simp (disch := omega) only [s222_18, s222_19, m222_20, s222_21, s222_23, s222_24, s222_27, s222_28, m222_29, s222_30, s222_32, Int.toNat_natCast, Int.toNat_natCast, Nat.reduceAdd, Nat.reduceMul, Int.reduceToNat, Int.reduceAdd, Int.reduceLT, Int.reduceLE, Int.reduceEq, Int.reduceNeg, Int.reduceMul, Int.reduceSub, Nat.reduceSub, reduceIte, ite_true, ite_false, and_true, true_and, and_self, cf, if_false, hb]
      rw [s222_33 hz]
      by_cases z0 : iand (xs i).toInt 63 = 0
      · rw [if_pos z0]; exact case0 hd hi6 hL h hn
      rw [if_neg z0]
      by_cases z1 : iand (xs i).toInt 63 = 1
      · rw [if_pos z1]; exact case1 hd hi6 hL h hn
      rw [if_neg z1]
      by_cases z2 : iand (xs i).toInt 63 = 2
      · rw [if_pos z2]; exact case2 hd hi6 hL h hn
      rw [if_neg z2]
      by_cases z3 : iand (xs i).toInt 63 = 3
      · rw [if_pos z3]; exact case3 hd hi6 hL h hn
      rw [if_neg z3]
      by_cases z4 : iand (xs i).toInt 63 = 4
      · rw [if_pos z4]; exact case4 hd hi6 hL h hn
      rw [if_neg z4]
      by_cases z5 : iand (xs i).toInt 63 = 5
      · rw [if_pos z5]; exact case5 hd hi6 hL h hn
      rw [if_neg z5]
      by_cases z6 : iand (xs i).toInt 63 = 6
      · rw [if_pos z6]; exact case6 hd hi6 hL h hn
      rw [if_neg z6]
      by_cases z7 : iand (xs i).toInt 63 = 7
      · rw [if_pos z7]; exact case7 hd hi6 hL h hn
      rw [if_neg z7]
      by_cases z8 : iand (xs i).toInt 63 = 8
      · rw [if_pos z8]; exact case8 hd hi6 hL h hn
      rw [if_neg z8]
      by_cases z9 : iand (xs i).toInt 63 = 9
      · rw [if_pos z9]; exact case9 hd hi6 hL h hn
      rw [if_neg z9]
      by_cases z10 : iand (xs i).toInt 63 = 10
      · rw [if_pos z10]; exact case10 hd hi6 hL h hn
      rw [if_neg z10]
      by_cases z11 : iand (xs i).toInt 63 = 11
      · rw [if_pos z11]; exact case11 hd hi6 hL h hn
      rw [if_neg z11]
      by_cases z12 : iand (xs i).toInt 63 = 12
      · rw [if_pos z12]; exact case12 hd hi6 hL h hn
      rw [if_neg z12]
      by_cases z13 : iand (xs i).toInt 63 = 13
      · rw [if_pos z13]; exact case13 hd hi6 hL h hn
      rw [if_neg z13]
      by_cases z14 : iand (xs i).toInt 63 = 14
      · rw [if_pos z14]; exact case14 hd hi6 hL h hn
      rw [if_neg z14]
      by_cases z15 : iand (xs i).toInt 63 = 15
      · rw [if_pos z15]; exact case15 hd hi6 hL h hn
      rw [if_neg z15]
      by_cases z16 : iand (xs i).toInt 63 = 16
      · rw [if_pos z16]; exact case16 hd hi6 hL h hn
      rw [if_neg z16]
      by_cases z17 : iand (xs i).toInt 63 = 17
      · rw [if_pos z17]; exact case17 hd hi6 hL h hn
      rw [if_neg z17]
      by_cases z18 : iand (xs i).toInt 63 = 18
      · rw [if_pos z18]; exact case18 hd hi6 hL h hn
      rw [if_neg z18]
      by_cases z19 : iand (xs i).toInt 63 = 19
      · rw [if_pos z19]; exact case19 hd hi6 hL h hn
      rw [if_neg z19]
      by_cases z20 : iand (xs i).toInt 63 = 20
      · rw [if_pos z20]; exact case20 hd hi6 hL h hn
      rw [if_neg z20]
      by_cases z21 : iand (xs i).toInt 63 = 21
      · rw [if_pos z21]; exact case21 hd hi6 hL h hn
      rw [if_neg z21]
      by_cases z22 : iand (xs i).toInt 63 = 22
      · rw [if_pos z22]; exact case22 hd hi6 hL h hn
      rw [if_neg z22]
      by_cases z23 : iand (xs i).toInt 63 = 23
      · rw [if_pos z23]; exact case23 hd hi6 hL h hn
      rw [if_neg z23]
      by_cases z24 : iand (xs i).toInt 63 = 24
      · rw [if_pos z24]; exact case24 hd hi6 hL h hn
      rw [if_neg z24]
      by_cases z25 : iand (xs i).toInt 63 = 25
      · rw [if_pos z25]; exact case25 hd hi6 hL h hn
      rw [if_neg z25]
      by_cases z26 : iand (xs i).toInt 63 = 26
      · rw [if_pos z26]; exact case26 hd hi6 hL h hn
      rw [if_neg z26]
      by_cases z27 : iand (xs i).toInt 63 = 27
      · rw [if_pos z27]; exact case27 hd hi6 hL h hn
      rw [if_neg z27]
      by_cases z28 : iand (xs i).toInt 63 = 28
      · rw [if_pos z28]; exact case28 hd hi6 hL h hn
      rw [if_neg z28]
      by_cases z29 : iand (xs i).toInt 63 = 29
      · rw [if_pos z29]; exact case29 hd hi6 hL h hn
      rw [if_neg z29]
      by_cases z30 : iand (xs i).toInt 63 = 30
      · rw [if_pos z30]; exact case30 hd hi6 hL h hn
      rw [if_neg z30]
      by_cases z31 : iand (xs i).toInt 63 = 31
      · rw [if_pos z31]; exact case31 hd hi6 hL h hn
      rw [if_neg z31]
      by_cases z32 : iand (xs i).toInt 63 = 32
      · rw [if_pos z32]; exact case32 hd hi6 hL h hn
      rw [if_neg z32]
      by_cases z33 : iand (xs i).toInt 63 = 33
      · rw [if_pos z33]; exact case33 hd hi6 hL h hn
      rw [if_neg z33]
      by_cases z34 : iand (xs i).toInt 63 = 34
      · rw [if_pos z34]; exact case34 hd hi6 hL h hn
      rw [if_neg z34]
      by_cases z35 : iand (xs i).toInt 63 = 35
      · rw [if_pos z35]; exact case35 hd hi6 hL h hn
      rw [if_neg z35]
      by_cases z36 : iand (xs i).toInt 63 = 36
      · rw [if_pos z36]; exact case36 hd hi6 hL h hn
      rw [if_neg z36]
      by_cases z37 : iand (xs i).toInt 63 = 37
      · rw [if_pos z37]; exact case37 hd hi6 hL h hn
      rw [if_neg z37]
      by_cases z38 : iand (xs i).toInt 63 = 38
      · rw [if_pos z38]; exact case38 hd hi6 hL h hn
      rw [if_neg z38]
      by_cases z39 : iand (xs i).toInt 63 = 39
      · rw [if_pos z39]; exact case39 hd hi6 hL h hn
      rw [if_neg z39]
      exact hn N B G h
def H00 : q_Gi := fun f k => if f = 5 ∧ k < 4 then 5 else 0
def P00 : q_Gi := fun _ _ => 0
def T00 : q_Gi := fun f _ => if f = 0 then -1 else 0
theorem bare0 (M : q_M) : upl (MF M) 0 78 9 0 [] := by
  refine ⟨rfl, by omega, ?_, ?_, ?_, ?_, ?_, ?_, trivial, by omega, by omega, Nat.zero_le _, Nat.zero_le _, fun c hc => absurd hc List.not_mem_nil⟩
  · rw [MF_lo (by omega)]
    simp (disch := omega) only [cm20, cm19, cm18, cm17, cm16, cm15, cm14, cm13, cm12, cm11, cm10, cm9, cm8, cm7, cm6, cm5, cm4, cm3, cm2, cm1, hM, rM, slM, rdM, mlM, acM, tpM, blM, up_at, up_k, up_ne, mk_ne, mk_at]
    all_goals rfl
  · rw [MF_lo (by omega)]
    simp (disch := omega) only [cm20, cm19, cm18, cm17, cm16, cm15, cm14, cm13, cm12, cm11, cm10, cm9, cm8, cm7, cm6, cm5, cm4, cm3, cm2, cm1, hM, rM, slM, rdM, mlM, acM, tpM, blM, up_at, up_k, up_ne, mk_ne, mk_at]
    all_goals rfl
  · rw [MF_lo (by omega)]
    simp (disch := omega) only [cm20, cm19, cm18, cm17, cm16, cm15, cm14, cm13, cm12, cm11, cm10, cm9, cm8, cm7, cm6, cm5, cm4, cm3, cm2, cm1, hM, rM, slM, rdM, mlM, acM, tpM, blM, up_at, up_k, up_ne, mk_ne, mk_at]
    all_goals rfl
  · rw [MF_lo (by omega)]
    simp (disch := omega) only [cm20, cm19, cm18, cm17, cm16, cm15, cm14, cm13, cm12, cm11, cm10, cm9, cm8, cm7, cm6, cm5, cm4, cm3, cm2, cm1, hM, rM, slM, rdM, mlM, acM, tpM, blM, up_at, up_k, up_ne, mk_ne, mk_at]
    all_goals rfl
  · rw [MF_lo (by omega)]
    simp (disch := omega) only [cm20, cm19, cm18, cm17, cm16, cm15, cm14, cm13, cm12, cm11, cm10, cm9, cm8, cm7, cm6, cm5, cm4, cm3, cm2, cm1, hM, rM, slM, rdM, mlM, acM, tpM, blM, up_at, up_k, up_ne, mk_ne, mk_at]
    all_goals rfl
  · rw [MF_lo (by omega)]
    simp (disch := omega) only [cm20, cm19, cm18, cm17, cm16, cm15, cm14, cm13, cm12, cm11, cm10, cm9, cm8, cm7, cm6, cm5, cm4, cm3, cm2, cm1, hM, rM, slM, rdM, mlM, acM, tpM, blM, up_at, up_k, up_ne, mk_ne, mk_at]
    all_goals rfl
theorem init_hv : hv1 G00 H00 := by
  unfold hv1
  decide +kernel
theorem init_pv : pv G00 P00 := by
  unfold pv rv0 rv1 rv2 rv3
  decide +kernel
theorem init_tv : tv G00 T00 := by
  unfold tv tv0 tv1 tv2 tv3 tv4 tv5
  decide +kernel
theorem init_mv : mv G00 H00 := by
  unfold mv
  decide +kernel
theorem init_mpv : mpv G00 P00 := by
  unfold mpv
  decide +kernel
theorem init_mtv : mtv G00 T00 := by
  refine ⟨by decide +kernel, by decide +kernel, fun j k _ _ => ?_⟩
  unfold T00
  rw [if_neg (show ¬ 2 + j = 0 by omega)]
  rfl
theorem init_ltr : ltr G00 := by
  unfold ltr
  decide +kernel
theorem init_Hok : Hok H00 := by
  unfold Hok
  decide +kernel
theorem init_Pok : Pok P00 := by
  unfold Pok
  decide +kernel
theorem init_Tok : Tok T00 := by
  intro j hj
  have e : ∀ k, T00 (2 + j) k = 0 := fun k => if_neg (by omega)
  have e0 : T00 0 j = -1 := rfl
  have e1 : T00 1 j = 0 := rfl
  rw [e0, e1]
  exact ⟨by omega, by omega, fun _ => rfl, fun k _ => by rw [e]; exact lr_0, fun _ k _ => Or.inl (e k)⟩
theorem init_rdr : rdr G00 0 := ⟨by decide +kernel, Nat.zero_le _, fun j hj => absurd hj (Nat.not_lt_zero _)⟩
theorem init_INV {xs : Nat → Int32} {M : q_M} (hM : ∀ j, M 1000 j = vI (xs j).toInt) : INV xs 0 (MF M) G00 := by
  refine ⟨H00, P00, T00, [], 0, nxG G00 0, 0, 0, -1, fun _ => [], 0, H00, P00, -1, ⟨⟨init_hv, by decide +kernel⟩, init_pv, init_tv, ⟨by decide +kernel, fun k hk => absurd hk (Nat.not_lt_zero _), Nat.zero_le _⟩, ⟨init_rdr, rfl⟩, ⟨⟨rfl, Nat.zero_le _, Nat.le_refl _, by decide +kernel, by decide +kernel, fun j hj => absurd hj (Nat.not_lt_zero _)⟩, bare0 M, fun j hj => absurd hj (Nat.not_lt_zero _)⟩, by decide +kernel, fun e => absurd e (by decide)⟩, ⟨⟨init_mv, by decide +kernel⟩, init_mpv, init_mtv, ⟨by decide +kernel, fun k hk => absurd hk (Nat.not_lt_zero _), Nat.zero_le _⟩, ⟨by decide +kernel, Nat.zero_le _, fun j hj => absurd hj (Nat.not_lt_zero _), txt_of init_rdr⟩, ⟨by decide +kernel, fun j hj => absurd hj (Nat.not_lt_zero _), init_ltr, by decide +kernel⟩, by decide +kernel, fun e => absurd e (by decide)⟩, ⟨⟨init_Hok, by decide +kernel, by decide +kernel, fun k _ _ => rfl⟩, init_Pok, init_Tok, ⟨by decide, by decide⟩, by decide, Or.inl rfl, fun e => absurd e (by decide)⟩, fun j => by rw [MF_up (by omega)]; exact hM j⟩
theorem us_153 : ∀ m, m < 154 → q_us m ≤ 7302250 := by decide +kernel
theorem pure (L : Nat) (hL : L ≤ 3072) (xs : Nat → Int32) : q_Pure L xs := by
  have h0 := loop (d := 60) (L := L) (xs := xs) (by omega) hL L 0 0 (MF (fun _ j => .int (xs j))) G00 (by omega) (by omega) (init_INV (fun j => (vI_t _).symm))
  have e : hp 0 L (MF (fun _ j => .int (xs j))) G00 = (129, L, MF (fun _ j => .int (xs j))) := by
    unfold hp
    rw [mm_init]
  rw [e] at h0
  have c1 := sp53 (d := 60) (L := L) (M := mk (fun _ j => .int (xs j)) 0 (dfl 8)) (by omega)
  have c2 := sp108 (d := 60) (L := L) (M := mk (cm20 (mk (fun _ j => .int (xs j)) 0 (dfl 8))) 82 (dfl 9)) (by omega)
  obtain ⟨r, X', ⟨n, hS⟩, hr, hX⟩ := E222 (d := 61) (X := q_X0 L xs) (Q := fin L) (by omega) (by
    show WP 60 222 0 [.ref 1000, .null, .null, .null] [] (0, L, fun _ j => .int (xs j)) (fin L)
    rw [s222_0 (by omega) (by rfl), s222_3]
    show WP 60 222 4 [.ref 1000, .null, .null, .null] [.ref 0, .ref 0] (1, L, mk (fun _ j => .int (xs j)) 0 (dfl 8)) (fin L)
    rw [c222_4 (by omega) c1, s222_7 (by omega), s222_8 (by omega) (by rfl), s222_11]
    show WP 60 222 12 [.ref 1000, .ref 0, .null, .null] [.ref 82, .ref 82] (83, L, mk (cm20 (mk (fun _ j => .int (xs j)) 0 (dfl 8))) 82 (dfl 9)) (fin L)
    rw [c222_12 (by omega) c2, s222_15 (by omega), s222_16, s222_17]
    exact h0)
  refine ⟨n, 60, X', by omega, ?_, by omega, us_153 _ (by omega)⟩
  rw [hr] at hS
  exact hS
