/-! one call of the law, on both sides -/
theorem xr (x : Int32) : -2147483648 ≤ x.toInt ∧ x.toInt ≤ 2147483647 := by
  have h1 := Int32.le_toInt x
  have h2 := Int32.toInt_lt x
  omega
theorem vI_w (z : Int) : vI (Int32.ofInt z).toInt = vI z := vI_t _
theorem vL_w (z : Int) : vL (Int64.ofInt z).toInt = vL z := vL_t _
theorem xl (x : Int64) : -9223372036854775808 ≤ x.toInt ∧ x.toInt ≤ 9223372036854775807 := by
  have h1 := Int64.le_toInt x
  have h2 := Int64.toInt_lt x
  omega
theorem lr_lor (a b : Int) : lr (lor a b) := xl _
theorem k222_246 {d : Nat} {l0 l1 l2 l3 : Value} {z : Int} {st : List Value} {X : q_H} {Q : Option Value → q_H → Prop} : WP d 222 246 [l0, l1, l2, l3] (vI z :: vI z :: st) X Q = WP d 222 1421 [l0, l1, l2, l3] st X Q := by
  rw [← vI_w z, s222_246 (xr _) (xr _), if_pos rfl]
theorem k222_279 {d : Nat} {l0 l1 l2 l3 : Value} {z : Int} {st : List Value} {X : q_H} {Q : Option Value → q_H → Prop} : WP d 222 279 [l0, l1, l2, l3] (vI z :: vI z :: st) X Q = WP d 222 1421 [l0, l1, l2, l3] st X Q := by
  rw [← vI_w z, s222_279 (xr _) (xr _), if_pos rfl]
theorem k222_312 {d : Nat} {l0 l1 l2 l3 : Value} {z : Int} {st : List Value} {X : q_H} {Q : Option Value → q_H → Prop} : WP d 222 312 [l0, l1, l2, l3] (vI z :: vI z :: st) X Q = WP d 222 1421 [l0, l1, l2, l3] st X Q := by
  rw [← vI_w z, s222_312 (xr _) (xr _), if_pos rfl]
theorem k222_345 {d : Nat} {l0 l1 l2 l3 : Value} {z : Int} {st : List Value} {X : q_H} {Q : Option Value → q_H → Prop} : WP d 222 345 [l0, l1, l2, l3] (vI z :: vI z :: st) X Q = WP d 222 1421 [l0, l1, l2, l3] st X Q := by
  rw [← vI_w z, s222_345 (xr _) (xr _), if_pos rfl]
theorem k222_388 {d : Nat} {l0 l1 l2 l3 : Value} {z : Int} {st : List Value} {X : q_H} {Q : Option Value → q_H → Prop} : WP d 222 388 [l0, l1, l2, l3] (vI z :: vI z :: st) X Q = WP d 222 1421 [l0, l1, l2, l3] st X Q := by
  rw [← vI_w z, s222_388 (xr _) (xr _), if_pos rfl]
theorem k222_411 {d : Nat} {l0 l1 l2 l3 : Value} {z : Int} {st : List Value} {X : q_H} {Q : Option Value → q_H → Prop} : WP d 222 411 [l0, l1, l2, l3] (vI z :: vI z :: st) X Q = WP d 222 1421 [l0, l1, l2, l3] st X Q := by
  rw [← vI_w z, s222_411 (xr _) (xr _), if_pos rfl]
theorem k222_424 {d : Nat} {l0 l1 l2 l3 : Value} {z : Int} {st : List Value} {X : q_H} {Q : Option Value → q_H → Prop} : WP d 222 424 [l0, l1, l2, l3] (vI z :: vI z :: st) X Q = WP d 222 1421 [l0, l1, l2, l3] st X Q := by
  rw [← vI_w z, s222_424 (xr _) (xr _), if_pos rfl]
theorem k222_447 {d : Nat} {l0 l1 l2 l3 : Value} {z : Int} {st : List Value} {X : q_H} {Q : Option Value → q_H → Prop} : WP d 222 447 [l0, l1, l2, l3] (vI z :: vI z :: st) X Q = WP d 222 1421 [l0, l1, l2, l3] st X Q := by
  rw [← vI_w z, s222_447 (xr _) (xr _), if_pos rfl]
theorem k222_480 {d : Nat} {l0 l1 l2 l3 : Value} {z : Int} {st : List Value} {X : q_H} {Q : Option Value → q_H → Prop} : WP d 222 480 [l0, l1, l2, l3] (vI z :: vI z :: st) X Q = WP d 222 1421 [l0, l1, l2, l3] st X Q := by
  rw [← vI_w z, s222_480 (xr _) (xr _), if_pos rfl]
theorem k222_503 {d : Nat} {l0 l1 l2 l3 : Value} {z : Int} {st : List Value} {X : q_H} {Q : Option Value → q_H → Prop} : WP d 222 503 [l0, l1, l2, l3] (vI z :: vI z :: st) X Q = WP d 222 1421 [l0, l1, l2, l3] st X Q := by
  rw [← vI_w z, s222_503 (xr _) (xr _), if_pos rfl]
theorem k222_526 {d : Nat} {l0 l1 l2 l3 : Value} {z : Int} {st : List Value} {X : q_H} {Q : Option Value → q_H → Prop} : WP d 222 526 [l0, l1, l2, l3] (vI z :: vI z :: st) X Q = WP d 222 1421 [l0, l1, l2, l3] st X Q := by
  rw [← vI_w z, s222_526 (xr _) (xr _), if_pos rfl]
theorem k222_559 {d : Nat} {l0 l1 l2 l3 : Value} {z : Int} {st : List Value} {X : q_H} {Q : Option Value → q_H → Prop} : WP d 222 559 [l0, l1, l2, l3] (vI z :: vI z :: st) X Q = WP d 222 1421 [l0, l1, l2, l3] st X Q := by
  rw [← vI_w z, s222_559 (xr _) (xr _), if_pos rfl]
theorem k222_592 {d : Nat} {l0 l1 l2 l3 : Value} {z : Int} {st : List Value} {X : q_H} {Q : Option Value → q_H → Prop} : WP d 222 592 [l0, l1, l2, l3] (vI z :: vI z :: st) X Q = WP d 222 1421 [l0, l1, l2, l3] st X Q := by
  rw [← vI_w z, s222_592 (xr _) (xr _), if_pos rfl]
theorem k222_605 {d : Nat} {l0 l1 l2 l3 : Value} {z : Int} {st : List Value} {X : q_H} {Q : Option Value → q_H → Prop} : WP d 222 605 [l0, l1, l2, l3] (vI z :: vI z :: st) X Q = WP d 222 1421 [l0, l1, l2, l3] st X Q := by
  rw [← vI_w z, s222_605 (xr _) (xr _), if_pos rfl]
theorem k222_638 {d : Nat} {l0 l1 l2 l3 : Value} {z : Int} {st : List Value} {X : q_H} {Q : Option Value → q_H → Prop} : WP d 222 638 [l0, l1, l2, l3] (vI z :: vI z :: st) X Q = WP d 222 1421 [l0, l1, l2, l3] st X Q := by
  rw [← vI_w z, s222_638 (xr _) (xr _), if_pos rfl]
theorem k222_671 {d : Nat} {l0 l1 l2 l3 : Value} {z : Int} {st : List Value} {X : q_H} {Q : Option Value → q_H → Prop} : WP d 222 671 [l0, l1, l2, l3] (vI z :: vI z :: st) X Q = WP d 222 1421 [l0, l1, l2, l3] st X Q := by
  rw [← vI_w z, s222_671 (xr _) (xr _), if_pos rfl]
theorem k222_694 {d : Nat} {l0 l1 l2 l3 : Value} {z : Int} {st : List Value} {X : q_H} {Q : Option Value → q_H → Prop} : WP d 222 694 [l0, l1, l2, l3] (vI z :: vI z :: st) X Q = WP d 222 1421 [l0, l1, l2, l3] st X Q := by
  rw [← vI_w z, s222_694 (xr _) (xr _), if_pos rfl]
theorem k222_717 {d : Nat} {l0 l1 l2 l3 : Value} {z : Int} {st : List Value} {X : q_H} {Q : Option Value → q_H → Prop} : WP d 222 717 [l0, l1, l2, l3] (vI z :: vI z :: st) X Q = WP d 222 1421 [l0, l1, l2, l3] st X Q := by
  rw [← vI_w z, s222_717 (xr _) (xr _), if_pos rfl]
theorem k222_740 {d : Nat} {l0 l1 l2 l3 : Value} {z : Int} {st : List Value} {X : q_H} {Q : Option Value → q_H → Prop} : WP d 222 740 [l0, l1, l2, l3] (vI z :: vI z :: st) X Q = WP d 222 1421 [l0, l1, l2, l3] st X Q := by
  rw [← vI_w z, s222_740 (xr _) (xr _), if_pos rfl]
theorem k222_763 {d : Nat} {l0 l1 l2 l3 : Value} {z : Int} {st : List Value} {X : q_H} {Q : Option Value → q_H → Prop} : WP d 222 763 [l0, l1, l2, l3] (vI z :: vI z :: st) X Q = WP d 222 1421 [l0, l1, l2, l3] st X Q := by
  rw [← vI_w z, s222_763 (xr _) (xr _), if_pos rfl]
theorem k222_776 {d : Nat} {l0 l1 l2 l3 : Value} {z : Int} {st : List Value} {X : q_H} {Q : Option Value → q_H → Prop} : WP d 222 776 [l0, l1, l2, l3] (vI z :: vI z :: st) X Q = WP d 222 1421 [l0, l1, l2, l3] st X Q := by
  rw [← vI_w z, s222_776 (xr _) (xr _), if_pos rfl]
theorem k222_819 {d : Nat} {l0 l1 l2 l3 : Value} {z : Int} {st : List Value} {X : q_H} {Q : Option Value → q_H → Prop} : WP d 222 819 [l0, l1, l2, l3] (vI z :: vI z :: st) X Q = WP d 222 1421 [l0, l1, l2, l3] st X Q := by
  rw [← vI_w z, s222_819 (xr _) (xr _), if_pos rfl]
theorem k222_852 {d : Nat} {l0 l1 l2 l3 : Value} {z : Int} {st : List Value} {X : q_H} {Q : Option Value → q_H → Prop} : WP d 222 852 [l0, l1, l2, l3] (vI z :: vI z :: st) X Q = WP d 222 1421 [l0, l1, l2, l3] st X Q := by
  rw [← vI_w z, s222_852 (xr _) (xr _), if_pos rfl]
theorem k222_885 {d : Nat} {l0 l1 l2 l3 : Value} {z : Int} {st : List Value} {X : q_H} {Q : Option Value → q_H → Prop} : WP d 222 885 [l0, l1, l2, l3] (vL z :: vL z :: st) X Q = WP d 222 1421 [l0, l1, l2, l3] st X Q := by
  have e : cmpz (Int64.ofInt z).toInt (Int64.ofInt z).toInt = 0 := by
    unfold cmpz
    repeat' split
    all_goals omega
  rw [← vL_w z, s222_885 (xl _) (xl _), e, s222_886 (by decide), if_pos rfl]
theorem k222_919 {d : Nat} {l0 l1 l2 l3 : Value} {z : Int} {st : List Value} {X : q_H} {Q : Option Value → q_H → Prop} : WP d 222 919 [l0, l1, l2, l3] (vL z :: vL z :: st) X Q = WP d 222 1421 [l0, l1, l2, l3] st X Q := by
  have e : cmpz (Int64.ofInt z).toInt (Int64.ofInt z).toInt = 0 := by
    unfold cmpz
    repeat' split
    all_goals omega
  rw [← vL_w z, s222_919 (xl _) (xl _), e, s222_920 (by decide), if_pos rfl]
theorem k222_953 {d : Nat} {l0 l1 l2 l3 : Value} {z : Int} {st : List Value} {X : q_H} {Q : Option Value → q_H → Prop} : WP d 222 953 [l0, l1, l2, l3] (vI z :: vI z :: st) X Q = WP d 222 1421 [l0, l1, l2, l3] st X Q := by
  rw [← vI_w z, s222_953 (xr _) (xr _), if_pos rfl]
theorem k222_976 {d : Nat} {l0 l1 l2 l3 : Value} {z : Int} {st : List Value} {X : q_H} {Q : Option Value → q_H → Prop} : WP d 222 976 [l0, l1, l2, l3] (vI z :: vI z :: st) X Q = WP d 222 1421 [l0, l1, l2, l3] st X Q := by
  rw [← vI_w z, s222_976 (xr _) (xr _), if_pos rfl]
theorem k222_1009 {d : Nat} {l0 l1 l2 l3 : Value} {z : Int} {st : List Value} {X : q_H} {Q : Option Value → q_H → Prop} : WP d 222 1009 [l0, l1, l2, l3] (vI z :: vI z :: st) X Q = WP d 222 1421 [l0, l1, l2, l3] st X Q := by
  rw [← vI_w z, s222_1009 (xr _) (xr _), if_pos rfl]
theorem k222_1022 {d : Nat} {l0 l1 l2 l3 : Value} {z : Int} {st : List Value} {X : q_H} {Q : Option Value → q_H → Prop} : WP d 222 1022 [l0, l1, l2, l3] (vI z :: vI z :: st) X Q = WP d 222 1421 [l0, l1, l2, l3] st X Q := by
  rw [← vI_w z, s222_1022 (xr _) (xr _), if_pos rfl]
theorem k222_1055 {d : Nat} {l0 l1 l2 l3 : Value} {z : Int} {st : List Value} {X : q_H} {Q : Option Value → q_H → Prop} : WP d 222 1055 [l0, l1, l2, l3] (vI z :: vI z :: st) X Q = WP d 222 1421 [l0, l1, l2, l3] st X Q := by
  rw [← vI_w z, s222_1055 (xr _) (xr _), if_pos rfl]
theorem k222_1068 {d : Nat} {l0 l1 l2 l3 : Value} {z : Int} {st : List Value} {X : q_H} {Q : Option Value → q_H → Prop} : WP d 222 1068 [l0, l1, l2, l3] (vI z :: vI z :: st) X Q = WP d 222 1421 [l0, l1, l2, l3] st X Q := by
  rw [← vI_w z, s222_1068 (xr _) (xr _), if_pos rfl]
theorem k222_1081 {d : Nat} {l0 l1 l2 l3 : Value} {z : Int} {st : List Value} {X : q_H} {Q : Option Value → q_H → Prop} : WP d 222 1081 [l0, l1, l2, l3] (vI z :: vI z :: st) X Q = WP d 222 1421 [l0, l1, l2, l3] st X Q := by
  rw [← vI_w z, s222_1081 (xr _) (xr _), if_pos rfl]
theorem k222_1124 {d : Nat} {l0 l1 l2 l3 : Value} {z : Int} {st : List Value} {X : q_H} {Q : Option Value → q_H → Prop} : WP d 222 1124 [l0, l1, l2, l3] (vI z :: vI z :: st) X Q = WP d 222 1421 [l0, l1, l2, l3] st X Q := by
  rw [← vI_w z, s222_1124 (xr _) (xr _), if_pos rfl]
theorem k222_1147 {d : Nat} {l0 l1 l2 l3 : Value} {z : Int} {st : List Value} {X : q_H} {Q : Option Value → q_H → Prop} : WP d 222 1147 [l0, l1, l2, l3] (vI z :: vI z :: st) X Q = WP d 222 1421 [l0, l1, l2, l3] st X Q := by
  rw [← vI_w z, s222_1147 (xr _) (xr _), if_pos rfl]
theorem k222_1180 {d : Nat} {l0 l1 l2 l3 : Value} {z : Int} {st : List Value} {X : q_H} {Q : Option Value → q_H → Prop} : WP d 222 1180 [l0, l1, l2, l3] (vI z :: vI z :: st) X Q = WP d 222 1421 [l0, l1, l2, l3] st X Q := by
  rw [← vI_w z, s222_1180 (xr _) (xr _), if_pos rfl]
theorem k222_1203 {d : Nat} {l0 l1 l2 l3 : Value} {z : Int} {st : List Value} {X : q_H} {Q : Option Value → q_H → Prop} : WP d 222 1203 [l0, l1, l2, l3] (vI z :: vI z :: st) X Q = WP d 222 1421 [l0, l1, l2, l3] st X Q := by
  rw [← vI_w z, s222_1203 (xr _) (xr _), if_pos rfl]
theorem k222_1246 {d : Nat} {l0 l1 l2 l3 : Value} {z : Int} {st : List Value} {X : q_H} {Q : Option Value → q_H → Prop} : WP d 222 1246 [l0, l1, l2, l3] (vI z :: vI z :: st) X Q = WP d 222 1421 [l0, l1, l2, l3] st X Q := by
  rw [← vI_w z, s222_1246 (xr _) (xr _), if_pos rfl]
theorem k222_1319 {d : Nat} {l0 l1 l2 l3 : Value} {z : Int} {st : List Value} {X : q_H} {Q : Option Value → q_H → Prop} : WP d 222 1319 [l0, l1, l2, l3] (vI z :: vI z :: st) X Q = WP d 222 1421 [l0, l1, l2, l3] st X Q := by
  rw [← vI_w z, s222_1319 (xr _) (xr _), if_pos rfl]
theorem k222_1352 {d : Nat} {l0 l1 l2 l3 : Value} {z : Int} {st : List Value} {X : q_H} {Q : Option Value → q_H → Prop} : WP d 222 1352 [l0, l1, l2, l3] (vL z :: vL z :: st) X Q = WP d 222 1421 [l0, l1, l2, l3] st X Q := by
  have e : cmpz (Int64.ofInt z).toInt (Int64.ofInt z).toInt = 0 := by
    unfold cmpz
    repeat' split
    all_goals omega
  rw [← vL_w z, s222_1352 (xl _) (xl _), e, s222_1353 (by decide), if_pos rfl]
theorem k222_1416 {d : Nat} {l0 l1 l2 l3 : Value} {z : Int} {st : List Value} {X : q_H} {Q : Option Value → q_H → Prop} : WP d 222 1416 [l0, l1, l2, l3] (vI z :: vI z :: st) X Q = WP d 222 1421 [l0, l1, l2, l3] st X Q := by
  rw [← vI_w z, s222_1416 (xr _) (xr _), if_pos rfl]
def INV (xs : Nat → Int32) (N : Nat) (B : q_Bv) (G : q_Gi) : Prop := ∃ (H P T : q_Gi) (tl : List Int) (n : Nat) (nx : Nat → Int) (uc a : Nat) (th : Int) (rcs : Nat → q_Rc) (s : Int) (I J : q_Gi) (ti : Int), CI N B G H P T tl n nx uc a th rcs s I J ti ∧ MI G H P T tl n nx uc th rcs s I J ti ∧ PI H P T uc th s I J ti ∧ ∀ j, B 1000 j = vI (xs j).toInt
theorem case0 {d L i N : Nat} {B : q_Bv} {G : q_Gi} {xs : Nat → Int32} {Q : Option Value → q_H → Prop} (hd : 40 ≤ d) (hi : i + 6 ≤ L) (hL : L ≤ 3072) (h : INV xs N B G) (hn : ∀ (N' : Nat) (B' : q_Bv) (G' : q_Gi), INV xs N' B' G' → WP d 222 1421 [.ref 1000, .ref 0, .ref 82, vI (i : Int)] [] (hp N' L B' G') Q) : WP d 222 208 [.ref 1000, .ref 0, .ref 82, vI (i : Int)] [] (hp N L B G) Q := by
  obtain ⟨H, P, T, tl, n, nx, uc, a, th, rcs, s, I, J, ti, hc, hm, hp', hb⟩ := h
  have e1 : ((i : Int) + 1).toNat = i + 1 := by omega
  have e2 : ((i : Int) + 2).toNat = i + 2 := by omega
  have e3 : ((i : Int) + 3).toNat = i + 3 := by omega
  have e4 : ((i : Int) + 4).toNat = i + 4 := by omega
  have e5 : ((i : Int) + 5).toNat = i + 5 := by omega
  obtain ⟨G1, s1, v1, f1⟩ := sp54 (d := d) (N := N) (L := L) (B := B) (k := (xs (i + 1)).toInt) (v := (xs (i + 2)).toInt) (f := (xs (i + 3)).toInt) (by omega) hc.1.1 hp'.1.1 (xr _) (xr _) (xr _)
  have hc1 := CI_h f1 v1 hc
  have hm1 := MI_c (fun c x => f1.1 c (by omega)) hm
  obtain ⟨G2, s2, v2, f2⟩ := sp117 (d := d) (N := N) (L := L) (B := B) (k := (xs (i + 1)).toInt) (v := (xs (i + 2)).toInt) (f := (xs (i + 3)).toInt) (by omega) hm1.1.1 hp'.1.1 hp'.1.2.2.2 (xr _) (xr _) (xr _)
  have hc2 := CI_c (fun c x => f2.1 c (by omega) (by omega)) hc1
  have hm2 := MI_w f2 v2 hm1
  have := hn N B G2 ⟨(x54 H (xs (i + 1)).toInt (xs (i + 2)).toInt (xs (i + 3)).toInt).2, P, T, tl, n, nx, uc, a, th, rcs, s, I, J, ti, hc2, hm2, ⟨x54_ok hp'.1, hp'.2⟩, hb⟩
  simp (disch := omega) only [s222_208, s222_209, s222_210, s222_211, s222_212, m222_213, s222_214, s222_215, s222_216, s222_217, m222_218, s222_219, s222_220, s222_221, s222_222, m222_223, s222_227, s222_228, s222_229, s222_230, s222_231, m222_232, s222_233, s222_234, s222_235, s222_236, m222_237, s222_238, s222_239, s222_240, s222_241, m222_242, Int.toNat_natCast, Int.toNat_natCast, Nat.reduceAdd, Nat.reduceMul, Int.reduceToNat, Int.reduceAdd, Int.reduceLT, Int.reduceLE, Int.reduceEq, Int.reduceNeg, Int.reduceMul, Int.reduceSub, Nat.reduceSub, reduceIte, ite_true, ite_false, and_true, true_and, and_self, hb, e1, e2, e3, e4, e5, m222_224 s1, m222_243 s2, k222_246]
  exact this
theorem case1 {d L i N : Nat} {B : q_Bv} {G : q_Gi} {xs : Nat → Int32} {Q : Option Value → q_H → Prop} (hd : 40 ≤ d) (hi : i + 6 ≤ L) (hL : L ≤ 3072) (h : INV xs N B G) (hn : ∀ (N' : Nat) (B' : q_Bv) (G' : q_Gi), INV xs N' B' G' → WP d 222 1421 [.ref 1000, .ref 0, .ref 82, vI (i : Int)] [] (hp N' L B' G') Q) : WP d 222 251 [.ref 1000, .ref 0, .ref 82, vI (i : Int)] [] (hp N L B G) Q := by
  obtain ⟨H, P, T, tl, n, nx, uc, a, th, rcs, s, I, J, ti, hc, hm, hp', hb⟩ := h
  have e1 : ((i : Int) + 1).toNat = i + 1 := by omega
  have e2 : ((i : Int) + 2).toNat = i + 2 := by omega
  have e3 : ((i : Int) + 3).toNat = i + 3 := by omega
  have e4 : ((i : Int) + 4).toNat = i + 4 := by omega
  have e5 : ((i : Int) + 5).toNat = i + 5 := by omega
  obtain ⟨G1, s1, f1⟩ := sp55 (d := d) (N := N) (L := L) (B := B) (b := (xs (i + 1)).toInt) (w := (xs (i + 2)).toInt) (by omega) hc.1.1 hp'.1.1 hc.1.2 (CI_upl hc hp') (xr _) (xr _)
  have hc1 := CI_q f1 hc
  have hm1 := MI_c (fun c x => f1 c (by omega)) hm
  obtain ⟨G2, s2, v2, f2⟩ := sp149s (d := d) (N := N) (L := L) (B := B) (b := (xs (i + 1)).toInt) (w := (xs (i + 2)).toInt) (by omega) (MI_ms hm1 hp') (xr _) (xr _)
  have hc2 := CI_c (fun c x => f2 c (by omega)) hc1
  have hm2 := MI_97 f2 hm1
  have := hn N B G2 ⟨H, P, T, tl, n, nx, uc, a, th, rcs, s, I, J, ti, hc2, hm2, hp', hb⟩
  simp (disch := omega) only [s222_251, s222_252, s222_253, s222_254, s222_255, m222_256, s222_257, s222_258, s222_259, s222_260, m222_261, s222_265, s222_266, s222_267, s222_268, s222_269, m222_270, s222_271, s222_272, s222_273, s222_274, m222_275, Int.toNat_natCast, Int.toNat_natCast, Nat.reduceAdd, Nat.reduceMul, Int.reduceToNat, Int.reduceAdd, Int.reduceLT, Int.reduceLE, Int.reduceEq, Int.reduceNeg, Int.reduceMul, Int.reduceSub, Nat.reduceSub, reduceIte, ite_true, ite_false, and_true, true_and, and_self, hb, e1, e2, e3, e4, e5, m222_262 s1, m222_276 s2, k222_279]
  exact this
theorem case2 {d L i N : Nat} {B : q_Bv} {G : q_Gi} {xs : Nat → Int32} {Q : Option Value → q_H → Prop} (hd : 40 ≤ d) (hi : i + 6 ≤ L) (hL : L ≤ 3072) (h : INV xs N B G) (hn : ∀ (N' : Nat) (B' : q_Bv) (G' : q_Gi), INV xs N' B' G' → WP d 222 1421 [.ref 1000, .ref 0, .ref 82, vI (i : Int)] [] (hp N' L B' G') Q) : WP d 222 284 [.ref 1000, .ref 0, .ref 82, vI (i : Int)] [] (hp N L B G) Q := by
  obtain ⟨H, P, T, tl, n, nx, uc, a, th, rcs, s, I, J, ti, hc, hm, hp', hb⟩ := h
  have e1 : ((i : Int) + 1).toNat = i + 1 := by omega
  have e2 : ((i : Int) + 2).toNat = i + 2 := by omega
  have e3 : ((i : Int) + 3).toNat = i + 3 := by omega
  have e4 : ((i : Int) + 4).toNat = i + 4 := by omega
  have e5 : ((i : Int) + 5).toNat = i + 5 := by omega
  obtain ⟨G1, s1, v1, f1⟩ := sp56 (d := d) (N := N) (L := L) (B := B) (b := (xs (i + 1)).toInt) (n := (xs (i + 2)).toInt) (by omega) hc.1.1 hp'.1.1 (xr _) (xr _)
  have hc1 := CI_h f1 v1 hc
  have hm1 := MI_c (fun c x => f1.1 c (by omega)) hm
  obtain ⟨G2, s2, v2, f2⟩ := sp118 (d := d) (N := N) (L := L) (B := B) (b := (xs (i + 1)).toInt) (n := (xs (i + 2)).toInt) (by omega) hm1.1.1 hp'.1.1 (xr _) (xr _)
  have hc2 := CI_c (fun c x => f2.1 c (by omega) (by omega)) hc1
  have hm2 := MI_w f2 v2 hm1
  have := hn N B G2 ⟨(x56 H (xs (i + 1)).toInt (xs (i + 2)).toInt).2, P, T, tl, n, nx, uc, a, th, rcs, s, I, J, ti, hc2, hm2, ⟨x56_ok hp'.1, hp'.2⟩, hb⟩
  simp (disch := omega) only [s222_284, s222_285, s222_286, s222_287, s222_288, m222_289, s222_290, s222_291, s222_292, s222_293, m222_294, s222_298, s222_299, s222_300, s222_301, s222_302, m222_303, s222_304, s222_305, s222_306, s222_307, m222_308, Int.toNat_natCast, Int.toNat_natCast, Nat.reduceAdd, Nat.reduceMul, Int.reduceToNat, Int.reduceAdd, Int.reduceLT, Int.reduceLE, Int.reduceEq, Int.reduceNeg, Int.reduceMul, Int.reduceSub, Nat.reduceSub, reduceIte, ite_true, ite_false, and_true, true_and, and_self, hb, e1, e2, e3, e4, e5, m222_295 s1, m222_309 s2, k222_312]
  exact this
theorem case3 {d L i N : Nat} {B : q_Bv} {G : q_Gi} {xs : Nat → Int32} {Q : Option Value → q_H → Prop} (hd : 40 ≤ d) (hi : i + 6 ≤ L) (hL : L ≤ 3072) (h : INV xs N B G) (hn : ∀ (N' : Nat) (B' : q_Bv) (G' : q_Gi), INV xs N' B' G' → WP d 222 1421 [.ref 1000, .ref 0, .ref 82, vI (i : Int)] [] (hp N' L B' G') Q) : WP d 222 317 [.ref 1000, .ref 0, .ref 82, vI (i : Int)] [] (hp N L B G) Q := by
  obtain ⟨H, P, T, tl, n, nx, uc, a, th, rcs, s, I, J, ti, hc, hm, hp', hb⟩ := h
  have e1 : ((i : Int) + 1).toNat = i + 1 := by omega
  have e2 : ((i : Int) + 2).toNat = i + 2 := by omega
  have e3 : ((i : Int) + 3).toNat = i + 3 := by omega
  have e4 : ((i : Int) + 4).toNat = i + 4 := by omega
  have e5 : ((i : Int) + 5).toNat = i + 5 := by omega
  obtain ⟨G1, s1, v1, f1⟩ := sp57 (d := d) (N := N) (L := L) (B := B) (b := (xs (i + 1)).toInt) (n := (xs (i + 2)).toInt) (by omega) hc.1.1 (xr _) (xr _)
  have hc1 := CI_h f1 v1 hc
  have hm1 := MI_c (fun c x => f1.1 c (by omega)) hm
  obtain ⟨G2, s2, v2, f2⟩ := sp119 (d := d) (N := N) (L := L) (B := B) (b := (xs (i + 1)).toInt) (n := (xs (i + 2)).toInt) (by omega) hm1.1.1 (xr _) (xr _)
  have hc2 := CI_c (fun c x => f2.1 c (by omega) (by omega)) hc1
  have hm2 := MI_w f2 v2 hm1
  have := hn N B G2 ⟨(x57 H (xs (i + 1)).toInt (xs (i + 2)).toInt).2, P, T, tl, n, nx, uc, a, th, rcs, s, I, J, ti, hc2, hm2, ⟨x57_ok hp'.1, hp'.2⟩, hb⟩
  simp (disch := omega) only [s222_317, s222_318, s222_319, s222_320, s222_321, m222_322, s222_323, s222_324, s222_325, s222_326, m222_327, s222_331, s222_332, s222_333, s222_334, s222_335, m222_336, s222_337, s222_338, s222_339, s222_340, m222_341, Int.toNat_natCast, Int.toNat_natCast, Nat.reduceAdd, Nat.reduceMul, Int.reduceToNat, Int.reduceAdd, Int.reduceLT, Int.reduceLE, Int.reduceEq, Int.reduceNeg, Int.reduceMul, Int.reduceSub, Nat.reduceSub, reduceIte, ite_true, ite_false, and_true, true_and, and_self, hb, e1, e2, e3, e4, e5, m222_328 s1, m222_342 s2, k222_345]
  exact this
theorem case4 {d L i N : Nat} {B : q_Bv} {G : q_Gi} {xs : Nat → Int32} {Q : Option Value → q_H → Prop} (hd : 40 ≤ d) (hi : i + 6 ≤ L) (hL : L ≤ 3072) (h : INV xs N B G) (hn : ∀ (N' : Nat) (B' : q_Bv) (G' : q_Gi), INV xs N' B' G' → WP d 222 1421 [.ref 1000, .ref 0, .ref 82, vI (i : Int)] [] (hp N' L B' G') Q) : WP d 222 350 [.ref 1000, .ref 0, .ref 82, vI (i : Int)] [] (hp N L B G) Q := by
  obtain ⟨H, P, T, tl, n, nx, uc, a, th, rcs, s, I, J, ti, hc, hm, hp', hb⟩ := h
  have e1 : ((i : Int) + 1).toNat = i + 1 := by omega
  have e2 : ((i : Int) + 2).toNat = i + 2 := by omega
  have e3 : ((i : Int) + 3).toNat = i + 3 := by omega
  have e4 : ((i : Int) + 4).toNat = i + 4 := by omega
  have e5 : ((i : Int) + 5).toNat = i + 5 := by omega
  obtain ⟨G1, s1, v1, f1⟩ := sp58 (d := d) (N := N) (L := L) (B := B) (b := (xs (i + 1)).toInt) (p := (xs (i + 2)).toInt) (n := (xs (i + 3)).toInt) (by omega) hc.1.1 hp'.1.1 (xr _) (xr _) (xr _)
  have hc1 := CI_h f1 v1 hc
  have hm1 := MI_c (fun c x => f1.1 c (by omega)) hm
  obtain ⟨G2, s2, v2, f2⟩ := sp120 (d := d) (N := N) (L := L) (B := B) (b := (xs (i + 1)).toInt) (p := (xs (i + 2)).toInt) (n := (xs (i + 3)).toInt) (by omega) hm1.1.1 hp'.1.1 (xr _) (xr _) (xr _)
  have hc2 := CI_c (fun c x => f2.1 c (by omega) (by omega)) hc1
  have hm2 := MI_w f2 v2 hm1
  have := hn N B G2 ⟨(x58 H (xs (i + 1)).toInt (xs (i + 2)).toInt (xs (i + 3)).toInt).2, P, T, tl, n, nx, uc, a, th, rcs, s, I, J, ti, hc2, hm2, ⟨x58_ok hp'.1, hp'.2⟩, hb⟩
  simp (disch := omega) only [s222_350, s222_351, s222_352, s222_353, s222_354, m222_355, s222_356, s222_357, s222_358, s222_359, m222_360, s222_361, s222_362, s222_363, s222_364, m222_365, s222_369, s222_370, s222_371, s222_372, s222_373, m222_374, s222_375, s222_376, s222_377, s222_378, m222_379, s222_380, s222_381, s222_382, s222_383, m222_384, Int.toNat_natCast, Int.toNat_natCast, Nat.reduceAdd, Nat.reduceMul, Int.reduceToNat, Int.reduceAdd, Int.reduceLT, Int.reduceLE, Int.reduceEq, Int.reduceNeg, Int.reduceMul, Int.reduceSub, Nat.reduceSub, reduceIte, ite_true, ite_false, and_true, true_and, and_self, hb, e1, e2, e3, e4, e5, m222_366 s1, m222_385 s2, k222_388]
  exact this
theorem case7 {d L i N : Nat} {B : q_Bv} {G : q_Gi} {xs : Nat → Int32} {Q : Option Value → q_H → Prop} (hd : 40 ≤ d) (hi : i + 6 ≤ L) (hL : L ≤ 3072) (h : INV xs N B G) (hn : ∀ (N' : Nat) (B' : q_Bv) (G' : q_Gi), INV xs N' B' G' → WP d 222 1421 [.ref 1000, .ref 0, .ref 82, vI (i : Int)] [] (hp N' L B' G') Q) : WP d 222 429 [.ref 1000, .ref 0, .ref 82, vI (i : Int)] [] (hp N L B G) Q := by
  obtain ⟨H, P, T, tl, n, nx, uc, a, th, rcs, s, I, J, ti, hc, hm, hp', hb⟩ := h
  have e1 : ((i : Int) + 1).toNat = i + 1 := by omega
  have e2 : ((i : Int) + 2).toNat = i + 2 := by omega
  have e3 : ((i : Int) + 3).toNat = i + 3 := by omega
  have e4 : ((i : Int) + 4).toNat = i + 4 := by omega
  have e5 : ((i : Int) + 5).toNat = i + 5 := by omega
  have s1 := sp61 (d := d) (N := N) (L := L) (B := B) (w := (xs (i + 1)).toInt) (by omega) hc.1.1 hp'.1.1 hc.1.2 (CI_upl hc hp') (xr _)
  have hm1 := hm
  have hc1 := hc
  have s2 := sp152 (d := d) (N := N) (L := L) (B := B) (w := (xs (i + 1)).toInt) (by omega) (MI_ms hm1 hp') (xr _)
  have hc2 := hc1
  have hm2 := hm1
  have := hn N B G ⟨H, P, T, tl, n, nx, uc, a, th, rcs, s, I, J, ti, hc2, hm2, hp', hb⟩
  simp (disch := omega) only [s222_429, s222_430, s222_431, s222_432, s222_433, m222_434, s222_438, s222_439, s222_440, s222_441, s222_442, m222_443, Int.toNat_natCast, Int.toNat_natCast, Nat.reduceAdd, Nat.reduceMul, Int.reduceToNat, Int.reduceAdd, Int.reduceLT, Int.reduceLE, Int.reduceEq, Int.reduceNeg, Int.reduceMul, Int.reduceSub, Nat.reduceSub, reduceIte, ite_true, ite_false, and_true, true_and, and_self, hb, e1, e2, e3, e4, e5, m222_435 s1, m222_444 s2, k222_447]
  exact this
theorem case8 {d L i N : Nat} {B : q_Bv} {G : q_Gi} {xs : Nat → Int32} {Q : Option Value → q_H → Prop} (hd : 40 ≤ d) (hi : i + 6 ≤ L) (hL : L ≤ 3072) (h : INV xs N B G) (hn : ∀ (N' : Nat) (B' : q_Bv) (G' : q_Gi), INV xs N' B' G' → WP d 222 1421 [.ref 1000, .ref 0, .ref 82, vI (i : Int)] [] (hp N' L B' G') Q) : WP d 222 452 [.ref 1000, .ref 0, .ref 82, vI (i : Int)] [] (hp N L B G) Q := by
  obtain ⟨H, P, T, tl, n, nx, uc, a, th, rcs, s, I, J, ti, hc, hm, hp', hb⟩ := h
  have e1 : ((i : Int) + 1).toNat = i + 1 := by omega
  have e2 : ((i : Int) + 2).toNat = i + 2 := by omega
  have e3 : ((i : Int) + 3).toNat = i + 3 := by omega
  have e4 : ((i : Int) + 4).toNat = i + 4 := by omega
  have e5 : ((i : Int) + 5).toNat = i + 5 := by omega
  obtain ⟨G1, s1, v1, f1⟩ := sp62 (d := d) (N := N) (L := L) (B := B) (b := (xs (i + 1)).toInt) (e := (xs (i + 2)).toInt) (by omega) hc.1.1 hp'.1.1 hc.1.2 (CI_upl hc hp') (xr _) (xr _)
  have hc1 := CI_h f1 v1 hc
  have hm1 := MI_c (fun c x => f1.1 c (by omega)) hm
  obtain ⟨G2, s2, v2, f2⟩ := sp154 (d := d) (N := N) (L := L) (B := B) (b := (xs (i + 1)).toInt) (e := (xs (i + 2)).toInt) (by omega) (MI_ms hm1 hp') hm1.2.2.2.2.2.1.2.2.2 hp'.1.2.2.1 (xr _) (xr _)
  have hc2 := CI_c (fun c x => f2.1 c (by omega) (by omega)) hc1
  have hm2 := MI_w f2 v2 hm1
  have := hn N B G2 ⟨(x62 (clR (rcO rcs th)) H (xs (i + 1)).toInt (xs (i + 2)).toInt).2, P, T, tl, n, nx, uc, a, th, rcs, s, I, J, ti, hc2, hm2, ⟨x62_ok (clR_k (MI_ms hm hp').2.2.2) hp'.1, hp'.2⟩, hb⟩
  simp (disch := omega) only [s222_452, s222_453, s222_454, s222_455, s222_456, m222_457, s222_458, s222_459, s222_460, s222_461, m222_462, s222_466, s222_467, s222_468, s222_469, s222_470, m222_471, s222_472, s222_473, s222_474, s222_475, m222_476, Int.toNat_natCast, Int.toNat_natCast, Nat.reduceAdd, Nat.reduceMul, Int.reduceToNat, Int.reduceAdd, Int.reduceLT, Int.reduceLE, Int.reduceEq, Int.reduceNeg, Int.reduceMul, Int.reduceSub, Nat.reduceSub, reduceIte, ite_true, ite_false, and_true, true_and, and_self, hb, e1, e2, e3, e4, e5, m222_463 s1, m222_477 s2, k222_480]
  exact this
theorem case9 {d L i N : Nat} {B : q_Bv} {G : q_Gi} {xs : Nat → Int32} {Q : Option Value → q_H → Prop} (hd : 40 ≤ d) (hi : i + 6 ≤ L) (hL : L ≤ 3072) (h : INV xs N B G) (hn : ∀ (N' : Nat) (B' : q_Bv) (G' : q_Gi), INV xs N' B' G' → WP d 222 1421 [.ref 1000, .ref 0, .ref 82, vI (i : Int)] [] (hp N' L B' G') Q) : WP d 222 485 [.ref 1000, .ref 0, .ref 82, vI (i : Int)] [] (hp N L B G) Q := by
  obtain ⟨H, P, T, tl, n, nx, uc, a, th, rcs, s, I, J, ti, hc, hm, hp', hb⟩ := h
  have e1 : ((i : Int) + 1).toNat = i + 1 := by omega
  have e2 : ((i : Int) + 2).toNat = i + 2 := by omega
  have e3 : ((i : Int) + 3).toNat = i + 3 := by omega
  have e4 : ((i : Int) + 4).toNat = i + 4 := by omega
  have e5 : ((i : Int) + 5).toNat = i + 5 := by omega
  obtain ⟨G1, s1, v1, f1⟩ := sp63 (d := d) (N := N) (L := L) (B := B) (n := (xs (i + 1)).toInt) (by omega) hc.1.1 hp'.1.1 hc.1.2 (CI_upl hc hp') (xr _)
  have hc1 := CI_h f1 v1 hc
  have hm1 := MI_c (fun c x => f1.1 c (by omega)) hm
  obtain ⟨G2, s2, v2, f2⟩ := sp157 (d := d) (N := N) (L := L) (B := B) (n := (xs (i + 1)).toInt) (by omega) (MI_ms hm1 hp') hp'.1.2.1 (xr _)
  have hc2 := CI_c (fun c x => f2.1 c (by omega) (by omega)) hc1
  have hm2 := MI_w f2 v2 hm1
  have := hn N B G2 ⟨(x63 (lsR 3 (rcO rcs th) 0) H (xs (i + 1)).toInt).2, P, T, tl, n, nx, uc, a, th, rcs, s, I, J, ti, hc2, hm2, ⟨x63_ok (CI_upl hc hp').2.2.2.2.2.2.2.2.2.2.1 hp'.1, hp'.2⟩, hb⟩
  simp (disch := omega) only [s222_485, s222_486, s222_487, s222_488, s222_489, m222_490, s222_494, s222_495, s222_496, s222_497, s222_498, m222_499, Int.toNat_natCast, Int.toNat_natCast, Nat.reduceAdd, Nat.reduceMul, Int.reduceToNat, Int.reduceAdd, Int.reduceLT, Int.reduceLE, Int.reduceEq, Int.reduceNeg, Int.reduceMul, Int.reduceSub, Nat.reduceSub, reduceIte, ite_true, ite_false, and_true, true_and, and_self, hb, e1, e2, e3, e4, e5, m222_491 s1, m222_500 s2, k222_503]
  exact this
theorem case10 {d L i N : Nat} {B : q_Bv} {G : q_Gi} {xs : Nat → Int32} {Q : Option Value → q_H → Prop} (hd : 40 ≤ d) (hi : i + 6 ≤ L) (hL : L ≤ 3072) (h : INV xs N B G) (hn : ∀ (N' : Nat) (B' : q_Bv) (G' : q_Gi), INV xs N' B' G' → WP d 222 1421 [.ref 1000, .ref 0, .ref 82, vI (i : Int)] [] (hp N' L B' G') Q) : WP d 222 508 [.ref 1000, .ref 0, .ref 82, vI (i : Int)] [] (hp N L B G) Q := by
  obtain ⟨H, P, T, tl, n, nx, uc, a, th, rcs, s, I, J, ti, hc, hm, hp', hb⟩ := h
  have e1 : ((i : Int) + 1).toNat = i + 1 := by omega
  have e2 : ((i : Int) + 2).toNat = i + 2 := by omega
  have e3 : ((i : Int) + 3).toNat = i + 3 := by omega
  have e4 : ((i : Int) + 4).toNat = i + 4 := by omega
  have e5 : ((i : Int) + 5).toNat = i + 5 := by omega
  obtain ⟨G1, s1, v1, f1⟩ := sp64 (d := d) (N := N) (L := L) (B := B) (b := (xs (i + 1)).toInt) (by omega) hc.1.1 hp'.1.1 hc.1.2 (CI_upl hc hp') (xr _)
  have hc1 := CI_h f1 v1 hc
  have hm1 := MI_c (fun c x => f1.1 c (by omega)) hm
  obtain ⟨G2, s2, v2, f2⟩ := sp159 (d := d) (N := N) (L := L) (B := B) (b := (xs (i + 1)).toInt) (by omega) (MI_ms hm1 hp') (xr _)
  have hc2 := CI_c (fun c x => f2.1 c (by omega) (by omega)) hc1
  have hm2 := MI_w f2 v2 hm1
  have := hn N B G2 ⟨(x64 (lsR 2 (rcO rcs th) 9) H (xs (i + 1)).toInt).2, P, T, tl, n, nx, uc, a, th, rcs, s, I, J, ti, hc2, hm2, ⟨x64_ok hp'.1, hp'.2⟩, hb⟩
  simp (disch := omega) only [s222_508, s222_509, s222_510, s222_511, s222_512, m222_513, s222_517, s222_518, s222_519, s222_520, s222_521, m222_522, Int.toNat_natCast, Int.toNat_natCast, Nat.reduceAdd, Nat.reduceMul, Int.reduceToNat, Int.reduceAdd, Int.reduceLT, Int.reduceLE, Int.reduceEq, Int.reduceNeg, Int.reduceMul, Int.reduceSub, Nat.reduceSub, reduceIte, ite_true, ite_false, and_true, true_and, and_self, hb, e1, e2, e3, e4, e5, m222_514 s1, m222_523 s2, k222_526]
  exact this
theorem case11 {d L i N : Nat} {B : q_Bv} {G : q_Gi} {xs : Nat → Int32} {Q : Option Value → q_H → Prop} (hd : 40 ≤ d) (hi : i + 6 ≤ L) (hL : L ≤ 3072) (h : INV xs N B G) (hn : ∀ (N' : Nat) (B' : q_Bv) (G' : q_Gi), INV xs N' B' G' → WP d 222 1421 [.ref 1000, .ref 0, .ref 82, vI (i : Int)] [] (hp N' L B' G') Q) : WP d 222 531 [.ref 1000, .ref 0, .ref 82, vI (i : Int)] [] (hp N L B G) Q := by
  obtain ⟨H, P, T, tl, n, nx, uc, a, th, rcs, s, I, J, ti, hc, hm, hp', hb⟩ := h
  have e1 : ((i : Int) + 1).toNat = i + 1 := by omega
  have e2 : ((i : Int) + 2).toNat = i + 2 := by omega
  have e3 : ((i : Int) + 3).toNat = i + 3 := by omega
  have e4 : ((i : Int) + 4).toNat = i + 4 := by omega
  have e5 : ((i : Int) + 5).toNat = i + 5 := by omega
  obtain ⟨G1, s1, f1⟩ := sp65 (d := d) (N := N) (L := L) (B := B) (n := (xs (i + 1)).toInt) (w := (xs (i + 2)).toInt) (by omega) hc.1.1 hp'.1.1 hp'.1.2.1 hc.1.2 (CI_upl hc hp') (xr _) (xr _)
  have hc1 := CI_q f1 hc
  have hm1 := MI_c (fun c x => f1 c (by omega)) hm
  obtain ⟨G2, s2, v2, M2, f2⟩ := sp162 (d := d) (N := N) (L := L) (B := B) (n := (xs (i + 1)).toInt) (w := (xs (i + 2)).toInt) (by omega) (MI_ms hm1 hp') hp'.1.2.1 hm1.2.2.2.2.2.1.2.2.2 (xr _) (xr _)
  have hc2 := CI_c (fun c x => f2.1 c (by omega) (by omega) (by omega) (by omega)) hc1
  have hm2 := MI_q f2 v2 M2 hm1
  have := hn N B G2 ⟨H, P, T, tl, n, nx, uc, a, th, rcs, s, I, J, ti, hc2, hm2, hp', hb⟩
  simp (disch := omega) only [s222_531, s222_532, s222_533, s222_534, s222_535, m222_536, s222_537, s222_538, s222_539, s222_540, m222_541, s222_545, s222_546, s222_547, s222_548, s222_549, m222_550, s222_551, s222_552, s222_553, s222_554, m222_555, Int.toNat_natCast, Int.toNat_natCast, Nat.reduceAdd, Nat.reduceMul, Int.reduceToNat, Int.reduceAdd, Int.reduceLT, Int.reduceLE, Int.reduceEq, Int.reduceNeg, Int.reduceMul, Int.reduceSub, Nat.reduceSub, reduceIte, ite_true, ite_false, and_true, true_and, and_self, hb, e1, e2, e3, e4, e5, m222_542 s1, m222_556 s2, k222_559]
  exact this
theorem case12 {d L i N : Nat} {B : q_Bv} {G : q_Gi} {xs : Nat → Int32} {Q : Option Value → q_H → Prop} (hd : 40 ≤ d) (hi : i + 6 ≤ L) (hL : L ≤ 3072) (h : INV xs N B G) (hn : ∀ (N' : Nat) (B' : q_Bv) (G' : q_Gi), INV xs N' B' G' → WP d 222 1421 [.ref 1000, .ref 0, .ref 82, vI (i : Int)] [] (hp N' L B' G') Q) : WP d 222 564 [.ref 1000, .ref 0, .ref 82, vI (i : Int)] [] (hp N L B G) Q := by
  obtain ⟨H, P, T, tl, n, nx, uc, a, th, rcs, s, I, J, ti, hc, hm, hp', hb⟩ := h
  have e1 : ((i : Int) + 1).toNat = i + 1 := by omega
  have e2 : ((i : Int) + 2).toNat = i + 2 := by omega
  have e3 : ((i : Int) + 3).toNat = i + 3 := by omega
  have e4 : ((i : Int) + 4).toNat = i + 4 := by omega
  have e5 : ((i : Int) + 5).toNat = i + 5 := by omega
  obtain ⟨G1, s1, f1⟩ := sp66 (d := d) (N := N) (L := L) (B := B) (b := (xs (i + 1)).toInt) (w := (xs (i + 2)).toInt) (by omega) hc.1.1 hp'.1.1 hp'.1.2.1 hc.1.2 (CI_upl hc hp') (xr _) (xr _)
  have hc1 := CI_q f1 hc
  have hm1 := MI_c (fun c x => f1 c (by omega)) hm
  obtain ⟨G2, s2, v2, M2, f2⟩ := sp163 (d := d) (N := N) (L := L) (B := B) (b := (xs (i + 1)).toInt) (w := (xs (i + 2)).toInt) (by omega) (MI_ms hm1 hp') hp'.1.2.1 hm1.2.2.2.2.2.1.2.2.2 (xr _) (xr _)
  have hc2 := CI_c (fun c x => f2.1 c (by omega) (by omega) (by omega) (by omega)) hc1
  have hm2 := MI_q f2 v2 M2 hm1
  have := hn N B G2 ⟨H, P, T, tl, n, nx, uc, a, th, rcs, s, I, J, ti, hc2, hm2, hp', hb⟩
  simp (disch := omega) only [s222_564, s222_565, s222_566, s222_567, s222_568, m222_569, s222_570, s222_571, s222_572, s222_573, m222_574, s222_578, s222_579, s222_580, s222_581, s222_582, m222_583, s222_584, s222_585, s222_586, s222_587, m222_588, Int.toNat_natCast, Int.toNat_natCast, Nat.reduceAdd, Nat.reduceMul, Int.reduceToNat, Int.reduceAdd, Int.reduceLT, Int.reduceLE, Int.reduceEq, Int.reduceNeg, Int.reduceMul, Int.reduceSub, Nat.reduceSub, reduceIte, ite_true, ite_false, and_true, true_and, and_self, hb, e1, e2, e3, e4, e5, m222_575 s1, m222_589 s2, k222_592]
  exact this
theorem case13 {d L i N : Nat} {B : q_Bv} {G : q_Gi} {xs : Nat → Int32} {Q : Option Value → q_H → Prop} (hd : 40 ≤ d) (hi : i + 6 ≤ L) (hL : L ≤ 3072) (h : INV xs N B G) (hn : ∀ (N' : Nat) (B' : q_Bv) (G' : q_Gi), INV xs N' B' G' → WP d 222 1421 [.ref 1000, .ref 0, .ref 82, vI (i : Int)] [] (hp N' L B' G') Q) : WP d 222 597 [.ref 1000, .ref 0, .ref 82, vI (i : Int)] [] (hp N L B G) Q := by
  obtain ⟨H, P, T, tl, n, nx, uc, a, th, rcs, s, I, J, ti, hc, hm, hp', hb⟩ := h
  have e1 : ((i : Int) + 1).toNat = i + 1 := by omega
  have e2 : ((i : Int) + 2).toNat = i + 2 := by omega
  have e3 : ((i : Int) + 3).toNat = i + 3 := by omega
  have e4 : ((i : Int) + 4).toNat = i + 4 := by omega
  have e5 : ((i : Int) + 5).toNat = i + 5 := by omega
  obtain ⟨G1, s1, f1⟩ := sp67 (d := d) (N := N) (L := L) (B := B)  (by omega) hc.1.1 hp'.1.1 hp'.1.2.1 hc.1.2 (CI_upl hc hp')
  have hc1 := CI_q f1 hc
  have hm1 := MI_c (fun c x => f1 c (by omega)) hm
  obtain ⟨G2, s2, v2, M2, f2⟩ := sp164 (d := d) (N := N) (L := L) (B := B)  (by omega) (MI_ms hm1 hp') hp'.1.2.1
  have hc2 := CI_c (fun c x => f2.1 c (by omega) (by omega) (by omega) (by omega)) hc1
  have hm2 := MI_q f2 v2 M2 hm1
  have := hn N B G2 ⟨H, P, T, tl, n, nx, uc, a, th, rcs, s, I, J, ti, hc2, hm2, hp', hb⟩
  simp (disch := omega) only [s222_597, s222_601, Int.toNat_natCast, Int.toNat_natCast, Nat.reduceAdd, Nat.reduceMul, Int.reduceToNat, Int.reduceAdd, Int.reduceLT, Int.reduceLE, Int.reduceEq, Int.reduceNeg, Int.reduceMul, Int.reduceSub, Nat.reduceSub, reduceIte, ite_true, ite_false, and_true, true_and, and_self, hb, e1, e2, e3, e4, e5, m222_598 s1, m222_602 s2, k222_605]
  exact this
theorem case14 {d L i N : Nat} {B : q_Bv} {G : q_Gi} {xs : Nat → Int32} {Q : Option Value → q_H → Prop} (hd : 40 ≤ d) (hi : i + 6 ≤ L) (hL : L ≤ 3072) (h : INV xs N B G) (hn : ∀ (N' : Nat) (B' : q_Bv) (G' : q_Gi), INV xs N' B' G' → WP d 222 1421 [.ref 1000, .ref 0, .ref 82, vI (i : Int)] [] (hp N' L B' G') Q) : WP d 222 610 [.ref 1000, .ref 0, .ref 82, vI (i : Int)] [] (hp N L B G) Q := by
  obtain ⟨H, P, T, tl, n, nx, uc, a, th, rcs, s, I, J, ti, hc, hm, hp', hb⟩ := h
  have e1 : ((i : Int) + 1).toNat = i + 1 := by omega
  have e2 : ((i : Int) + 2).toNat = i + 2 := by omega
  have e3 : ((i : Int) + 3).toNat = i + 3 := by omega
  have e4 : ((i : Int) + 4).toNat = i + 4 := by omega
  have e5 : ((i : Int) + 5).toNat = i + 5 := by omega
  obtain ⟨G1, s1, f1⟩ := sp68 (d := d) (N := N) (L := L) (B := B) (b := (xs (i + 1)).toInt) (w := (xs (i + 2)).toInt) (by omega) hc.1.1 hp'.1.1 hc.1.2 (CI_upl hc hp') (xr _) (xr _)
  have hc1 := CI_q f1 hc
  have hm1 := MI_c (fun c x => f1 c (by omega)) hm
  obtain ⟨G2, s2, v2, M2, f2⟩ := sp167 (d := d) (N := N) (L := L) (B := B) (b := (xs (i + 1)).toInt) (w := (xs (i + 2)).toInt) (by omega) (MI_ms hm1 hp') hp'.1.2.2.1 hm1.2.2.2.2.2.1.2.2.2 (xr _) (xr _)
  have hc2 := CI_c (fun c x => f2.1 c (by omega) (by omega) (by omega) (by omega)) hc1
  have hm2 := MI_q f2 v2 M2 hm1
  have := hn N B G2 ⟨H, P, T, tl, n, nx, uc, a, th, rcs, s, I, J, ti, hc2, hm2, hp', hb⟩
  simp (disch := omega) only [s222_610, s222_611, s222_612, s222_613, s222_614, m222_615, s222_616, s222_617, s222_618, s222_619, m222_620, s222_624, s222_625, s222_626, s222_627, s222_628, m222_629, s222_630, s222_631, s222_632, s222_633, m222_634, Int.toNat_natCast, Int.toNat_natCast, Nat.reduceAdd, Nat.reduceMul, Int.reduceToNat, Int.reduceAdd, Int.reduceLT, Int.reduceLE, Int.reduceEq, Int.reduceNeg, Int.reduceMul, Int.reduceSub, Nat.reduceSub, reduceIte, ite_true, ite_false, and_true, true_and, and_self, hb, e1, e2, e3, e4, e5, m222_621 s1, m222_635 s2, k222_638]
  exact this
theorem case15 {d L i N : Nat} {B : q_Bv} {G : q_Gi} {xs : Nat → Int32} {Q : Option Value → q_H → Prop} (hd : 40 ≤ d) (hi : i + 6 ≤ L) (hL : L ≤ 3072) (h : INV xs N B G) (hn : ∀ (N' : Nat) (B' : q_Bv) (G' : q_Gi), INV xs N' B' G' → WP d 222 1421 [.ref 1000, .ref 0, .ref 82, vI (i : Int)] [] (hp N' L B' G') Q) : WP d 222 643 [.ref 1000, .ref 0, .ref 82, vI (i : Int)] [] (hp N L B G) Q := by
  obtain ⟨H, P, T, tl, n, nx, uc, a, th, rcs, s, I, J, ti, hc, hm, hp', hb⟩ := h
  have e1 : ((i : Int) + 1).toNat = i + 1 := by omega
  have e2 : ((i : Int) + 2).toNat = i + 2 := by omega
  have e3 : ((i : Int) + 3).toNat = i + 3 := by omega
  have e4 : ((i : Int) + 4).toNat = i + 4 := by omega
  have e5 : ((i : Int) + 5).toNat = i + 5 := by omega
  obtain ⟨G1, s1, f1⟩ := sp69 (d := d) (N := N) (L := L) (B := B) (b := (xs (i + 1)).toInt) (w := (xs (i + 2)).toInt) (by omega) hc.1.1 hp'.1.1 hc.1.2 (CI_upl hc hp') (xr _) (xr _)
  have hc1 := CI_q f1 hc
  have hm1 := MI_c (fun c x => f1 c (by omega)) hm
  obtain ⟨G2, s2, v2, M2, f2⟩ := sp168 (d := d) (N := N) (L := L) (B := B) (b := (xs (i + 1)).toInt) (n := (xs (i + 2)).toInt) (by omega) (MI_ms hm1 hp') hp'.1.2.2.1 hm1.2.2.2.2.2.1.2.2.2 (xr _) (xr _)
  have hc2 := CI_c (fun c x => f2.1 c (by omega) (by omega) (by omega) (by omega)) hc1
  have hm2 := MI_q f2 v2 M2 hm1
  have := hn N B G2 ⟨H, P, T, tl, n, nx, uc, a, th, rcs, s, I, J, ti, hc2, hm2, hp', hb⟩
  simp (disch := omega) only [s222_643, s222_644, s222_645, s222_646, s222_647, m222_648, s222_649, s222_650, s222_651, s222_652, m222_653, s222_657, s222_658, s222_659, s222_660, s222_661, m222_662, s222_663, s222_664, s222_665, s222_666, m222_667, Int.toNat_natCast, Int.toNat_natCast, Nat.reduceAdd, Nat.reduceMul, Int.reduceToNat, Int.reduceAdd, Int.reduceLT, Int.reduceLE, Int.reduceEq, Int.reduceNeg, Int.reduceMul, Int.reduceSub, Nat.reduceSub, reduceIte, ite_true, ite_false, and_true, true_and, and_self, hb, e1, e2, e3, e4, e5, m222_654 s1, m222_668 s2, k222_671]
  exact this
theorem case16 {d L i N : Nat} {B : q_Bv} {G : q_Gi} {xs : Nat → Int32} {Q : Option Value → q_H → Prop} (hd : 40 ≤ d) (hi : i + 6 ≤ L) (hL : L ≤ 3072) (h : INV xs N B G) (hn : ∀ (N' : Nat) (B' : q_Bv) (G' : q_Gi), INV xs N' B' G' → WP d 222 1421 [.ref 1000, .ref 0, .ref 82, vI (i : Int)] [] (hp N' L B' G') Q) : WP d 222 676 [.ref 1000, .ref 0, .ref 82, vI (i : Int)] [] (hp N L B G) Q := by
  obtain ⟨H, P, T, tl, n, nx, uc, a, th, rcs, s, I, J, ti, hc, hm, hp', hb⟩ := h
  have e1 : ((i : Int) + 1).toNat = i + 1 := by omega
  have e2 : ((i : Int) + 2).toNat = i + 2 := by omega
  have e3 : ((i : Int) + 3).toNat = i + 3 := by omega
  have e4 : ((i : Int) + 4).toNat = i + 4 := by omega
  have e5 : ((i : Int) + 5).toNat = i + 5 := by omega
  obtain ⟨G1, s1, f1⟩ := sp70 (d := d) (N := N) (L := L) (B := B) (b := (xs (i + 1)).toInt) (by omega) hc.1.1 hp'.1.1 hc.1.2 (CI_upl hc hp') (xr _)
  have hc1 := CI_q f1 hc
  have hm1 := MI_c (fun c x => f1 c (by omega)) hm
  obtain ⟨G2, s2, v2, f2⟩ := sp169s (d := d) (N := N) (L := L) (B := B) (b := (xs (i + 1)).toInt) (by omega) (MI_ms hm1 hp') (xr _)
  have hc2 := CI_c (fun c x => f2 c (by omega)) hc1
  have hm2 := MI_97 f2 hm1
  have := hn N B G2 ⟨H, P, T, tl, n, nx, uc, a, th, rcs, s, I, J, ti, hc2, hm2, hp', hb⟩
  simp (disch := omega) only [s222_676, s222_677, s222_678, s222_679, s222_680, m222_681, s222_685, s222_686, s222_687, s222_688, s222_689, m222_690, Int.toNat_natCast, Int.toNat_natCast, Nat.reduceAdd, Nat.reduceMul, Int.reduceToNat, Int.reduceAdd, Int.reduceLT, Int.reduceLE, Int.reduceEq, Int.reduceNeg, Int.reduceMul, Int.reduceSub, Nat.reduceSub, reduceIte, ite_true, ite_false, and_true, true_and, and_self, hb, e1, e2, e3, e4, e5, m222_682 s1, m222_691 s2, k222_694]
  exact this
theorem case17 {d L i N : Nat} {B : q_Bv} {G : q_Gi} {xs : Nat → Int32} {Q : Option Value → q_H → Prop} (hd : 40 ≤ d) (hi : i + 6 ≤ L) (hL : L ≤ 3072) (h : INV xs N B G) (hn : ∀ (N' : Nat) (B' : q_Bv) (G' : q_Gi), INV xs N' B' G' → WP d 222 1421 [.ref 1000, .ref 0, .ref 82, vI (i : Int)] [] (hp N' L B' G') Q) : WP d 222 699 [.ref 1000, .ref 0, .ref 82, vI (i : Int)] [] (hp N L B G) Q := by
  obtain ⟨H, P, T, tl, n, nx, uc, a, th, rcs, s, I, J, ti, hc, hm, hp', hb⟩ := h
  have e1 : ((i : Int) + 1).toNat = i + 1 := by omega
  have e2 : ((i : Int) + 2).toNat = i + 2 := by omega
  have e3 : ((i : Int) + 3).toNat = i + 3 := by omega
  have e4 : ((i : Int) + 4).toNat = i + 4 := by omega
  have e5 : ((i : Int) + 5).toNat = i + 5 := by omega
  obtain ⟨G1, s1, f1⟩ := sp71 (d := d) (N := N) (L := L) (B := B) (w := (xs (i + 1)).toInt) (by omega) hc.1.1 hp'.1.1 hc.1.2 (CI_upl hc hp') (xr _)
  have hc1 := CI_q f1 hc
  have hm1 := MI_c (fun c x => f1 c (by omega)) hm
  obtain ⟨G2, s2, v2, M2, f2⟩ := sp171 (d := d) (N := N) (L := L) (B := B) (w := (xs (i + 1)).toInt) (by omega) (MI_ms hm1 hp') hm1.2.2.2.2.2.1.2.2.2 (xr _)
  have hc2 := CI_c (fun c x => f2.1 c (by omega) (by omega) (by omega) (by omega)) hc1
  have hm2 := MI_q f2 v2 M2 hm1
  have := hn N B G2 ⟨H, P, T, tl, n, nx, uc, a, th, rcs, s, I, J, ti, hc2, hm2, hp', hb⟩
  simp (disch := omega) only [s222_699, s222_700, s222_701, s222_702, s222_703, m222_704, s222_708, s222_709, s222_710, s222_711, s222_712, m222_713, Int.toNat_natCast, Int.toNat_natCast, Nat.reduceAdd, Nat.reduceMul, Int.reduceToNat, Int.reduceAdd, Int.reduceLT, Int.reduceLE, Int.reduceEq, Int.reduceNeg, Int.reduceMul, Int.reduceSub, Nat.reduceSub, reduceIte, ite_true, ite_false, and_true, true_and, and_self, hb, e1, e2, e3, e4, e5, m222_705 s1, m222_714 s2, k222_717]
  exact this
theorem case18 {d L i N : Nat} {B : q_Bv} {G : q_Gi} {xs : Nat → Int32} {Q : Option Value → q_H → Prop} (hd : 40 ≤ d) (hi : i + 6 ≤ L) (hL : L ≤ 3072) (h : INV xs N B G) (hn : ∀ (N' : Nat) (B' : q_Bv) (G' : q_Gi), INV xs N' B' G' → WP d 222 1421 [.ref 1000, .ref 0, .ref 82, vI (i : Int)] [] (hp N' L B' G') Q) : WP d 222 722 [.ref 1000, .ref 0, .ref 82, vI (i : Int)] [] (hp N L B G) Q := by
  obtain ⟨H, P, T, tl, n, nx, uc, a, th, rcs, s, I, J, ti, hc, hm, hp', hb⟩ := h
  have e1 : ((i : Int) + 1).toNat = i + 1 := by omega
  have e2 : ((i : Int) + 2).toNat = i + 2 := by omega
  have e3 : ((i : Int) + 3).toNat = i + 3 := by omega
  have e4 : ((i : Int) + 4).toNat = i + 4 := by omega
  have e5 : ((i : Int) + 5).toNat = i + 5 := by omega
  obtain ⟨G1, s1, v1, f1⟩ := sp72 (d := d) (N := N) (L := L) (B := B) (b := (xs (i + 1)).toInt) (by omega) hc.1.1 hp'.1.1 hc.2.1 hp'.2.1 (xr _)
  have hc1 := CI_p f1 v1 hc
  have hm1 := MI_c (fun c x => f1 c (by omega)) hm
  obtain ⟨G2, s2, v2, f2⟩ := sp172 (d := d) (N := N) (L := L) (B := B) (b := (xs (i + 1)).toInt) (by omega) hm1.1.1 hp'.1.1 hm1.2.1 hp'.2.1 (xr _)
  have hc2 := CI_c (fun c x => f2.1 c (by omega) (by omega)) hc1
  have hm2 := MI_p f2 v2 hm1
  have := hn N B G2 ⟨H, (r72 H P (xs (i + 1)).toInt).2, T, tl, n, nx, uc, a, th, rcs, s, I, J, ti, hc2, hm2, ⟨hp'.1, r72_ok hp'.1.1.1.2 hp'.2.1, hp'.2.2⟩, hb⟩
  simp (disch := omega) only [s222_722, s222_723, s222_724, s222_725, s222_726, m222_727, s222_731, s222_732, s222_733, s222_734, s222_735, m222_736, Int.toNat_natCast, Int.toNat_natCast, Nat.reduceAdd, Nat.reduceMul, Int.reduceToNat, Int.reduceAdd, Int.reduceLT, Int.reduceLE, Int.reduceEq, Int.reduceNeg, Int.reduceMul, Int.reduceSub, Nat.reduceSub, reduceIte, ite_true, ite_false, and_true, true_and, and_self, hb, e1, e2, e3, e4, e5, m222_728 s1, m222_737 s2, k222_740]
  exact this
theorem case19 {d L i N : Nat} {B : q_Bv} {G : q_Gi} {xs : Nat → Int32} {Q : Option Value → q_H → Prop} (hd : 40 ≤ d) (hi : i + 6 ≤ L) (hL : L ≤ 3072) (h : INV xs N B G) (hn : ∀ (N' : Nat) (B' : q_Bv) (G' : q_Gi), INV xs N' B' G' → WP d 222 1421 [.ref 1000, .ref 0, .ref 82, vI (i : Int)] [] (hp N' L B' G') Q) : WP d 222 745 [.ref 1000, .ref 0, .ref 82, vI (i : Int)] [] (hp N L B G) Q := by
  obtain ⟨H, P, T, tl, n, nx, uc, a, th, rcs, s, I, J, ti, hc, hm, hp', hb⟩ := h
  have e1 : ((i : Int) + 1).toNat = i + 1 := by omega
  have e2 : ((i : Int) + 2).toNat = i + 2 := by omega
  have e3 : ((i : Int) + 3).toNat = i + 3 := by omega
  have e4 : ((i : Int) + 4).toNat = i + 4 := by omega
  have e5 : ((i : Int) + 5).toNat = i + 5 := by omega
  obtain ⟨G1, s1, f1⟩ := sp73 (d := d) (N := N) (L := L) (B := B) (w := (xs (i + 1)).toInt) (by omega) hc.1.1 hp'.1.1 hp'.1.2.1 hc.1.2 (CI_upl hc hp') hc.2.1 hp'.2.1 (xr _)
  have hc1 := CI_q f1 hc
  have hm1 := MI_c (fun c x => f1 c (by omega)) hm
  obtain ⟨G2, s2, v2, M2, f2⟩ := sp173 (d := d) (N := N) (L := L) (B := B) (w := (xs (i + 1)).toInt) (by omega) (MI_ms hm1 hp') hm1.2.1 hp'.2.1 hm1.2.2.2.2.2.1.2.2.2 (xr _)
  have hc2 := CI_c (fun c x => f2.1 c (by omega) (by omega) (by omega) (by omega)) hc1
  have hm2 := MI_q f2 v2 M2 hm1
  have := hn N B G2 ⟨H, P, T, tl, n, nx, uc, a, th, rcs, s, I, J, ti, hc2, hm2, hp', hb⟩
  simp (disch := omega) only [s222_745, s222_746, s222_747, s222_748, s222_749, m222_750, s222_754, s222_755, s222_756, s222_757, s222_758, m222_759, Int.toNat_natCast, Int.toNat_natCast, Nat.reduceAdd, Nat.reduceMul, Int.reduceToNat, Int.reduceAdd, Int.reduceLT, Int.reduceLE, Int.reduceEq, Int.reduceNeg, Int.reduceMul, Int.reduceSub, Nat.reduceSub, reduceIte, ite_true, ite_false, and_true, true_and, and_self, hb, e1, e2, e3, e4, e5, m222_751 s1, m222_760 s2, k222_763]
  exact this
theorem case20 {d L i N : Nat} {B : q_Bv} {G : q_Gi} {xs : Nat → Int32} {Q : Option Value → q_H → Prop} (hd : 40 ≤ d) (hi : i + 6 ≤ L) (hL : L ≤ 3072) (h : INV xs N B G) (hn : ∀ (N' : Nat) (B' : q_Bv) (G' : q_Gi), INV xs N' B' G' → WP d 222 1421 [.ref 1000, .ref 0, .ref 82, vI (i : Int)] [] (hp N' L B' G') Q) : WP d 222 768 [.ref 1000, .ref 0, .ref 82, vI (i : Int)] [] (hp N L B G) Q := by
  obtain ⟨H, P, T, tl, n, nx, uc, a, th, rcs, s, I, J, ti, hc, hm, hp', hb⟩ := h
  have e1 : ((i : Int) + 1).toNat = i + 1 := by omega
  have e2 : ((i : Int) + 2).toNat = i + 2 := by omega
  have e3 : ((i : Int) + 3).toNat = i + 3 := by omega
  have e4 : ((i : Int) + 4).toNat = i + 4 := by omega
  have e5 : ((i : Int) + 5).toNat = i + 5 := by omega
  have s1 := sp74 (d := d) (N := N) (L := L) (B := B)  (by omega) hc.1.1 hp'.1.1
  have hm1 := hm
  have hc1 := hc
  have s2 := sp174 (d := d) (N := N) (L := L) (B := B)  (by omega) hm1.1.1 hp'.1.1
  have hc2 := hc1
  have hm2 := hm1
  have := hn N B G ⟨H, P, T, tl, n, nx, uc, a, th, rcs, s, I, J, ti, hc2, hm2, hp', hb⟩
  simp (disch := omega) only [s222_768, s222_772, Int.toNat_natCast, Int.toNat_natCast, Nat.reduceAdd, Nat.reduceMul, Int.reduceToNat, Int.reduceAdd, Int.reduceLT, Int.reduceLE, Int.reduceEq, Int.reduceNeg, Int.reduceMul, Int.reduceSub, Nat.reduceSub, reduceIte, ite_true, ite_false, and_true, true_and, and_self, hb, e1, e2, e3, e4, e5, m222_769 s1, m222_773 s2, k222_776]
  exact this
theorem case21 {d L i N : Nat} {B : q_Bv} {G : q_Gi} {xs : Nat → Int32} {Q : Option Value → q_H → Prop} (hd : 40 ≤ d) (hi : i + 6 ≤ L) (hL : L ≤ 3072) (h : INV xs N B G) (hn : ∀ (N' : Nat) (B' : q_Bv) (G' : q_Gi), INV xs N' B' G' → WP d 222 1421 [.ref 1000, .ref 0, .ref 82, vI (i : Int)] [] (hp N' L B' G') Q) : WP d 222 781 [.ref 1000, .ref 0, .ref 82, vI (i : Int)] [] (hp N L B G) Q := by
  obtain ⟨H, P, T, tl, n, nx, uc, a, th, rcs, s, I, J, ti, hc, hm, hp', hb⟩ := h
  have e1 : ((i : Int) + 1).toNat = i + 1 := by omega
  have e2 : ((i : Int) + 2).toNat = i + 2 := by omega
  have e3 : ((i : Int) + 3).toNat = i + 3 := by omega
  have e4 : ((i : Int) + 4).toNat = i + 4 := by omega
  have e5 : ((i : Int) + 5).toNat = i + 5 := by omega
  obtain ⟨G1, s1, v1, f1⟩ := sp75 (d := d) (N := N) (L := L) (B := B) (b := (xs (i + 1)).toInt) (f := (xs (i + 2)).toInt) (n := (xs (i + 3)).toInt) (by omega) hc.1.1 hp'.1.1 hc.2.1 hp'.2.1 (xr _) (xr _) (xr _)
  have hc1 := CI_p f1 v1 hc
  have hm1 := MI_c (fun c x => f1 c (by omega)) hm
  obtain ⟨G2, s2, v2, f2⟩ := sp175 (d := d) (N := N) (L := L) (B := B) (b := (xs (i + 1)).toInt) (f := (xs (i + 2)).toInt) (w := (xs (i + 3)).toInt) (by omega) hm1.1.1 hp'.1.1 hm1.2.1 hp'.2.1 (xr _) (xr _) (xr _)
  have hc2 := CI_c (fun c x => f2.1 c (by omega) (by omega)) hc1
  have hm2 := MI_p f2 v2 hm1
  have := hn N B G2 ⟨H, (r75 H P (xs (i + 1)).toInt (xs (i + 2)).toInt (xs (i + 3)).toInt).2, T, tl, n, nx, uc, a, th, rcs, s, I, J, ti, hc2, hm2, ⟨hp'.1, r75_ok hp'.1.1.1.2 hp'.2.1, hp'.2.2⟩, hb⟩
  simp (disch := omega) only [s222_781, s222_782, s222_783, s222_784, s222_785, m222_786, s222_787, s222_788, s222_789, s222_790, m222_791, s222_792, s222_793, s222_794, s222_795, m222_796, s222_800, s222_801, s222_802, s222_803, s222_804, m222_805, s222_806, s222_807, s222_808, s222_809, m222_810, s222_811, s222_812, s222_813, s222_814, m222_815, Int.toNat_natCast, Int.toNat_natCast, Nat.reduceAdd, Nat.reduceMul, Int.reduceToNat, Int.reduceAdd, Int.reduceLT, Int.reduceLE, Int.reduceEq, Int.reduceNeg, Int.reduceMul, Int.reduceSub, Nat.reduceSub, reduceIte, ite_true, ite_false, and_true, true_and, and_self, hb, e1, e2, e3, e4, e5, m222_797 s1, m222_816 s2, k222_819]
  exact this
theorem case22 {d L i N : Nat} {B : q_Bv} {G : q_Gi} {xs : Nat → Int32} {Q : Option Value → q_H → Prop} (hd : 40 ≤ d) (hi : i + 6 ≤ L) (hL : L ≤ 3072) (h : INV xs N B G) (hn : ∀ (N' : Nat) (B' : q_Bv) (G' : q_Gi), INV xs N' B' G' → WP d 222 1421 [.ref 1000, .ref 0, .ref 82, vI (i : Int)] [] (hp N' L B' G') Q) : WP d 222 824 [.ref 1000, .ref 0, .ref 82, vI (i : Int)] [] (hp N L B G) Q := by
  obtain ⟨H, P, T, tl, n, nx, uc, a, th, rcs, s, I, J, ti, hc, hm, hp', hb⟩ := h
  have e1 : ((i : Int) + 1).toNat = i + 1 := by omega
  have e2 : ((i : Int) + 2).toNat = i + 2 := by omega
  have e3 : ((i : Int) + 3).toNat = i + 3 := by omega
  have e4 : ((i : Int) + 4).toNat = i + 4 := by omega
  have e5 : ((i : Int) + 5).toNat = i + 5 := by omega
  obtain ⟨G1, s1, f1⟩ := sp76 (d := d) (N := N) (L := L) (B := B) (b := (xs (i + 1)).toInt) (w := (xs (i + 2)).toInt) (by omega) hc.1.1 hp'.1.1 hp'.1.2.1 hc.1.2 (CI_upl hc hp') hc.2.1 hp'.2.1 (xr _) (xr _)
  have hc1 := CI_q f1 hc
  have hm1 := MI_c (fun c x => f1 c (by omega)) hm
  obtain ⟨G2, s2, v2, M2, f2⟩ := sp177 (d := d) (N := N) (L := L) (B := B) (b := (xs (i + 1)).toInt) (w := (xs (i + 2)).toInt) (by omega) (MI_ms hm1 hp') hm1.2.1 hp'.2.1 hp'.1.2.1 hm1.2.2.2.2.2.1.2.2.2 (xr _) (xr _)
  have hc2 := CI_c (fun c x => f2.1 c (by omega) (by omega) (by omega) (by omega) (by omega)) hc1
  have hm2 := MI_qv f2 v2 M2 hm1
  have := hn N B G2 ⟨H, P, T, tl, n, nx, uc, a, th, rcs, s, I, J, ti, hc2, hm2, hp', hb⟩
  simp (disch := omega) only [s222_824, s222_825, s222_826, s222_827, s222_828, m222_829, s222_830, s222_831, s222_832, s222_833, m222_834, s222_838, s222_839, s222_840, s222_841, s222_842, m222_843, s222_844, s222_845, s222_846, s222_847, m222_848, Int.toNat_natCast, Int.toNat_natCast, Nat.reduceAdd, Nat.reduceMul, Int.reduceToNat, Int.reduceAdd, Int.reduceLT, Int.reduceLE, Int.reduceEq, Int.reduceNeg, Int.reduceMul, Int.reduceSub, Nat.reduceSub, reduceIte, ite_true, ite_false, and_true, true_and, and_self, hb, e1, e2, e3, e4, e5, m222_835 s1, m222_849 s2, k222_852]
  exact this
theorem case23 {d L i N : Nat} {B : q_Bv} {G : q_Gi} {xs : Nat → Int32} {Q : Option Value → q_H → Prop} (hd : 40 ≤ d) (hi : i + 6 ≤ L) (hL : L ≤ 3072) (h : INV xs N B G) (hn : ∀ (N' : Nat) (B' : q_Bv) (G' : q_Gi), INV xs N' B' G' → WP d 222 1421 [.ref 1000, .ref 0, .ref 82, vI (i : Int)] [] (hp N' L B' G') Q) : WP d 222 857 [.ref 1000, .ref 0, .ref 82, vI (i : Int)] [] (hp N L B G) Q := by
  obtain ⟨H, P, T, tl, n, nx, uc, a, th, rcs, s, I, J, ti, hc, hm, hp', hb⟩ := h
  have e1 : ((i : Int) + 1).toNat = i + 1 := by omega
  have e2 : ((i : Int) + 2).toNat = i + 2 := by omega
  have e3 : ((i : Int) + 3).toNat = i + 3 := by omega
  have e4 : ((i : Int) + 4).toNat = i + 4 := by omega
  have e5 : ((i : Int) + 5).toNat = i + 5 := by omega
  obtain ⟨G1, s1, f1⟩ := sp77 (d := d) (N := N) (L := L) (B := B) (b := (xs (i + 1)).toInt) (w := (xs (i + 2)).toInt) (by omega) hc.1.1 hp'.1.1 hc.1.2 (CI_upl hc hp') (xr _) (xr _)
  have hc1 := CI_q f1 hc
  have hm1 := MI_c (fun c x => f1 c (by omega)) hm
  obtain ⟨G2, s2, v2, M2, f2⟩ := sp180 (d := d) (N := N) (L := L) (B := B) (b := (xs (i + 1)).toInt) (w := (xs (i + 2)).toInt) (by omega) (MI_ms hm1 hp') hp'.1.2.2.1 hm1.2.2.2.2.2.1.2.2.2 (xr _) (xr _)
  have hc2 := CI_c (fun c x => f2.1 c (by omega) (by omega) (by omega) (by omega)) hc1
  have hm2 := MI_q f2 v2 M2 hm1
  have := hn N B G2 ⟨H, P, T, tl, n, nx, uc, a, th, rcs, s, I, J, ti, hc2, hm2, hp', hb⟩
  simp (disch := omega) only [s222_857, s222_858, s222_859, s222_860, s222_861, m222_862, s222_863, s222_864, s222_865, s222_866, m222_867, s222_871, s222_872, s222_873, s222_874, s222_875, m222_876, s222_877, s222_878, s222_879, s222_880, m222_881, Int.toNat_natCast, Int.toNat_natCast, Nat.reduceAdd, Nat.reduceMul, Int.reduceToNat, Int.reduceAdd, Int.reduceLT, Int.reduceLE, Int.reduceEq, Int.reduceNeg, Int.reduceMul, Int.reduceSub, Nat.reduceSub, reduceIte, ite_true, ite_false, and_true, true_and, and_self, hb, e1, e2, e3, e4, e5, m222_868 s1, m222_882 s2, k222_885]
  exact this
theorem case24 {d L i N : Nat} {B : q_Bv} {G : q_Gi} {xs : Nat → Int32} {Q : Option Value → q_H → Prop} (hd : 40 ≤ d) (hi : i + 6 ≤ L) (hL : L ≤ 3072) (h : INV xs N B G) (hn : ∀ (N' : Nat) (B' : q_Bv) (G' : q_Gi), INV xs N' B' G' → WP d 222 1421 [.ref 1000, .ref 0, .ref 82, vI (i : Int)] [] (hp N' L B' G') Q) : WP d 222 891 [.ref 1000, .ref 0, .ref 82, vI (i : Int)] [] (hp N L B G) Q := by
  obtain ⟨H, P, T, tl, n, nx, uc, a, th, rcs, s, I, J, ti, hc, hm, hp', hb⟩ := h
  have e1 : ((i : Int) + 1).toNat = i + 1 := by omega
  have e2 : ((i : Int) + 2).toNat = i + 2 := by omega
  have e3 : ((i : Int) + 3).toNat = i + 3 := by omega
  have e4 : ((i : Int) + 4).toNat = i + 4 := by omega
  have e5 : ((i : Int) + 5).toNat = i + 5 := by omega
  obtain ⟨G1, s1, f1⟩ := sp78 (d := d) (N := N) (L := L) (B := B) (n := (xs (i + 1)).toInt) (w := (xs (i + 2)).toInt) (by omega) hc.1.1 hp'.1.1 hp'.1.2.1 hc.1.2 (CI_upl hc hp') (xr _) (xr _)
  have hc1 := CI_q f1 hc
  have hm1 := MI_c (fun c x => f1 c (by omega)) hm
  obtain ⟨G2, s2, v2, M2, f2⟩ := sp181 (d := d) (N := N) (L := L) (B := B) (z := (xs (i + 1)).toInt) (w := (xs (i + 2)).toInt) (by omega) (MI_ms hm1 hp') hp'.1.2.1 hm1.2.2.2.2.2.1.2.2.2 (xr _) (xr _)
  have hc2 := CI_c (fun c x => f2.1 c (by omega) (by omega) (by omega) (by omega)) hc1
  have hm2 := MI_q f2 v2 M2 hm1
  have := hn N B G2 ⟨H, P, T, tl, n, nx, uc, a, th, rcs, s, I, J, ti, hc2, hm2, hp', hb⟩
  simp (disch := omega) only [s222_891, s222_892, s222_893, s222_894, s222_895, m222_896, s222_897, s222_898, s222_899, s222_900, m222_901, s222_905, s222_906, s222_907, s222_908, s222_909, m222_910, s222_911, s222_912, s222_913, s222_914, m222_915, Int.toNat_natCast, Int.toNat_natCast, Nat.reduceAdd, Nat.reduceMul, Int.reduceToNat, Int.reduceAdd, Int.reduceLT, Int.reduceLE, Int.reduceEq, Int.reduceNeg, Int.reduceMul, Int.reduceSub, Nat.reduceSub, reduceIte, ite_true, ite_false, and_true, true_and, and_self, hb, e1, e2, e3, e4, e5, m222_902 s1, m222_916 s2, k222_919]
  exact this
theorem case25 {d L i N : Nat} {B : q_Bv} {G : q_Gi} {xs : Nat → Int32} {Q : Option Value → q_H → Prop} (hd : 40 ≤ d) (hi : i + 6 ≤ L) (hL : L ≤ 3072) (h : INV xs N B G) (hn : ∀ (N' : Nat) (B' : q_Bv) (G' : q_Gi), INV xs N' B' G' → WP d 222 1421 [.ref 1000, .ref 0, .ref 82, vI (i : Int)] [] (hp N' L B' G') Q) : WP d 222 925 [.ref 1000, .ref 0, .ref 82, vI (i : Int)] [] (hp N L B G) Q := by
  obtain ⟨H, P, T, tl, n, nx, uc, a, th, rcs, s, I, J, ti, hc, hm, hp', hb⟩ := h
  have e1 : ((i : Int) + 1).toNat = i + 1 := by omega
  have e2 : ((i : Int) + 2).toNat = i + 2 := by omega
  have e3 : ((i : Int) + 3).toNat = i + 3 := by omega
  have e4 : ((i : Int) + 4).toNat = i + 4 := by omega
  have e5 : ((i : Int) + 5).toNat = i + 5 := by omega
  obtain ⟨G1, s1, v1, f1⟩ := sp79 (d := d) (N := N) (L := L) (B := B) (b := (xs (i + 1)).toInt) (f := (xs (i + 2)).toInt) (by omega) hc.1.1 hp'.1.1 hc.2.1 hp'.2.1 (xr _) (xr _)
  have hc1 := CI_p f1 v1 hc
  have hm1 := MI_c (fun c x => f1 c (by omega)) hm
  obtain ⟨G2, s2, v2, f2⟩ := sp182 (d := d) (N := N) (L := L) (B := B) (b := (xs (i + 1)).toInt) (f := (xs (i + 2)).toInt) (by omega) hm1.1.1 hp'.1.1 hm1.2.1 hp'.2.1 (xr _) (xr _)
  have hc2 := CI_c (fun c x => f2.1 c (by omega) (by omega)) hc1
  have hm2 := MI_p f2 v2 hm1
  have := hn N B G2 ⟨H, (r79 H P (xs (i + 1)).toInt (xs (i + 2)).toInt).2, T, tl, n, nx, uc, a, th, rcs, s, I, J, ti, hc2, hm2, ⟨hp'.1, r79_ok hp'.1.1.1.2 (xr _) hp'.2.1, hp'.2.2⟩, hb⟩
  simp (disch := omega) only [s222_925, s222_926, s222_927, s222_928, s222_929, m222_930, s222_931, s222_932, s222_933, s222_934, m222_935, s222_939, s222_940, s222_941, s222_942, s222_943, m222_944, s222_945, s222_946, s222_947, s222_948, m222_949, Int.toNat_natCast, Int.toNat_natCast, Nat.reduceAdd, Nat.reduceMul, Int.reduceToNat, Int.reduceAdd, Int.reduceLT, Int.reduceLE, Int.reduceEq, Int.reduceNeg, Int.reduceMul, Int.reduceSub, Nat.reduceSub, reduceIte, ite_true, ite_false, and_true, true_and, and_self, hb, e1, e2, e3, e4, e5, m222_936 s1, m222_950 s2, k222_953]
  exact this
theorem case26 {d L i N : Nat} {B : q_Bv} {G : q_Gi} {xs : Nat → Int32} {Q : Option Value → q_H → Prop} (hd : 40 ≤ d) (hi : i + 6 ≤ L) (hL : L ≤ 3072) (h : INV xs N B G) (hn : ∀ (N' : Nat) (B' : q_Bv) (G' : q_Gi), INV xs N' B' G' → WP d 222 1421 [.ref 1000, .ref 0, .ref 82, vI (i : Int)] [] (hp N' L B' G') Q) : WP d 222 958 [.ref 1000, .ref 0, .ref 82, vI (i : Int)] [] (hp N L B G) Q := by
  obtain ⟨H, P, T, tl, n, nx, uc, a, th, rcs, s, I, J, ti, hc, hm, hp', hb⟩ := h
  have e1 : ((i : Int) + 1).toNat = i + 1 := by omega
  have e2 : ((i : Int) + 2).toNat = i + 2 := by omega
  have e3 : ((i : Int) + 3).toNat = i + 3 := by omega
  have e4 : ((i : Int) + 4).toNat = i + 4 := by omega
  have e5 : ((i : Int) + 5).toNat = i + 5 := by omega
  obtain ⟨G1, s1, f1⟩ := sp80 (d := d) (N := N) (L := L) (B := B) (w := (xs (i + 1)).toInt) (by omega) hc.1.1 hp'.1.1 hp'.1.2.1 hp'.1.2.2.1 hc.1.2 (CI_upl hc hp') hc.2.1 hp'.2.1 (xr _)
  have hc1 := CI_q f1 hc
  have hm1 := MI_c (fun c x => f1 c (by omega)) hm
  obtain ⟨G2, s2, v2, M2, f2⟩ := sp183 (d := d) (N := N) (L := L) (B := B) (w := (xs (i + 1)).toInt) (by omega) (MI_ms hm1 hp') hm1.2.1 hp'.2.1 hp'.1.2.1 hp'.1.2.2.1 hm1.2.2.2.2.2.1.2.2.2 (xr _)
  have hc2 := CI_c (fun c x => f2.1 c (by omega) (by omega) (by omega) (by omega)) hc1
  have hm2 := MI_q f2 v2 M2 hm1
  have := hn N B G2 ⟨H, P, T, tl, n, nx, uc, a, th, rcs, s, I, J, ti, hc2, hm2, hp', hb⟩
  simp (disch := omega) only [s222_958, s222_959, s222_960, s222_961, s222_962, m222_963, s222_967, s222_968, s222_969, s222_970, s222_971, m222_972, Int.toNat_natCast, Int.toNat_natCast, Nat.reduceAdd, Nat.reduceMul, Int.reduceToNat, Int.reduceAdd, Int.reduceLT, Int.reduceLE, Int.reduceEq, Int.reduceNeg, Int.reduceMul, Int.reduceSub, Nat.reduceSub, reduceIte, ite_true, ite_false, and_true, true_and, and_self, hb, e1, e2, e3, e4, e5, m222_964 s1, m222_973 s2, k222_976]
  exact this
theorem case27 {d L i N : Nat} {B : q_Bv} {G : q_Gi} {xs : Nat → Int32} {Q : Option Value → q_H → Prop} (hd : 40 ≤ d) (hi : i + 6 ≤ L) (hL : L ≤ 3072) (h : INV xs N B G) (hn : ∀ (N' : Nat) (B' : q_Bv) (G' : q_Gi), INV xs N' B' G' → WP d 222 1421 [.ref 1000, .ref 0, .ref 82, vI (i : Int)] [] (hp N' L B' G') Q) : WP d 222 981 [.ref 1000, .ref 0, .ref 82, vI (i : Int)] [] (hp N L B G) Q := by
  obtain ⟨H, P, T, tl, n, nx, uc, a, th, rcs, s, I, J, ti, hc, hm, hp', hb⟩ := h
  have e1 : ((i : Int) + 1).toNat = i + 1 := by omega
  have e2 : ((i : Int) + 2).toNat = i + 2 := by omega
  have e3 : ((i : Int) + 3).toNat = i + 3 := by omega
  have e4 : ((i : Int) + 4).toNat = i + 4 := by omega
  have e5 : ((i : Int) + 5).toNat = i + 5 := by omega
  obtain ⟨G1, s1, v1, f1⟩ := sp81 (d := d) (N := N) (L := L) (B := B) (b := (xs (i + 1)).toInt) (f := (xs (i + 2)).toInt) (by omega) hc.1.1 hp'.1.1 hc.2.1 hp'.2.1 (xr _) (xr _)
  have hc1 := CI_p f1 v1 hc
  have hm1 := MI_c (fun c x => f1 c (by omega)) hm
  obtain ⟨G2, s2, v2, f2⟩ := sp184 (d := d) (N := N) (L := L) (B := B) (b := (xs (i + 1)).toInt) (f := (xs (i + 2)).toInt) (by omega) hm1.1.1 hp'.1.1 hm1.2.1 hp'.2.1 (xr _) (xr _)
  have hc2 := CI_c (fun c x => f2.1 c (by omega) (by omega)) hc1
  have hm2 := MI_p f2 v2 hm1
  have := hn N B G2 ⟨H, (r81 H P (xs (i + 1)).toInt (xs (i + 2)).toInt).2, T, tl, n, nx, uc, a, th, rcs, s, I, J, ti, hc2, hm2, ⟨hp'.1, r81_ok hp'.1.1.1.2 hp'.2.1, hp'.2.2⟩, hb⟩
  simp (disch := omega) only [s222_981, s222_982, s222_983, s222_984, s222_985, m222_986, s222_987, s222_988, s222_989, s222_990, m222_991, s222_995, s222_996, s222_997, s222_998, s222_999, m222_1000, s222_1001, s222_1002, s222_1003, s222_1004, m222_1005, Int.toNat_natCast, Int.toNat_natCast, Nat.reduceAdd, Nat.reduceMul, Int.reduceToNat, Int.reduceAdd, Int.reduceLT, Int.reduceLE, Int.reduceEq, Int.reduceNeg, Int.reduceMul, Int.reduceSub, Nat.reduceSub, reduceIte, ite_true, ite_false, and_true, true_and, and_self, hb, e1, e2, e3, e4, e5, m222_992 s1, m222_1006 s2, k222_1009]
  exact this
theorem case28 {d L i N : Nat} {B : q_Bv} {G : q_Gi} {xs : Nat → Int32} {Q : Option Value → q_H → Prop} (hd : 40 ≤ d) (hi : i + 6 ≤ L) (hL : L ≤ 3072) (h : INV xs N B G) (hn : ∀ (N' : Nat) (B' : q_Bv) (G' : q_Gi), INV xs N' B' G' → WP d 222 1421 [.ref 1000, .ref 0, .ref 82, vI (i : Int)] [] (hp N' L B' G') Q) : WP d 222 1014 [.ref 1000, .ref 0, .ref 82, vI (i : Int)] [] (hp N L B G) Q := by
  obtain ⟨H, P, T, tl, n, nx, uc, a, th, rcs, s, I, J, ti, hc, hm, hp', hb⟩ := h
  have e1 : ((i : Int) + 1).toNat = i + 1 := by omega
  have e2 : ((i : Int) + 2).toNat = i + 2 := by omega
  have e3 : ((i : Int) + 3).toNat = i + 3 := by omega
  have e4 : ((i : Int) + 4).toNat = i + 4 := by omega
  have e5 : ((i : Int) + 5).toNat = i + 5 := by omega
  have s1 := sp82 (d := d) (N := N) (L := L) (B := B)  (by omega) hc.1.1 hp'.1.1 hc.2.1 hp'.2.1
  have hm1 := hm
  have hc1 := hc
  have s2 := sp185 (d := d) (N := N) (L := L) (B := B)  (by omega) hm1.1.1 hp'.1.1 hm1.2.1 hp'.2.1
  have hc2 := hc1
  have hm2 := hm1
  have := hn N B G ⟨H, P, T, tl, n, nx, uc, a, th, rcs, s, I, J, ti, hc2, hm2, hp', hb⟩
  simp (disch := omega) only [s222_1014, s222_1018, Int.toNat_natCast, Int.toNat_natCast, Nat.reduceAdd, Nat.reduceMul, Int.reduceToNat, Int.reduceAdd, Int.reduceLT, Int.reduceLE, Int.reduceEq, Int.reduceNeg, Int.reduceMul, Int.reduceSub, Nat.reduceSub, reduceIte, ite_true, ite_false, and_true, true_and, and_self, hb, e1, e2, e3, e4, e5, m222_1015 s1, m222_1019 s2, k222_1022]
  exact this
theorem case29 {d L i N : Nat} {B : q_Bv} {G : q_Gi} {xs : Nat → Int32} {Q : Option Value → q_H → Prop} (hd : 40 ≤ d) (hi : i + 6 ≤ L) (hL : L ≤ 3072) (h : INV xs N B G) (hn : ∀ (N' : Nat) (B' : q_Bv) (G' : q_Gi), INV xs N' B' G' → WP d 222 1421 [.ref 1000, .ref 0, .ref 82, vI (i : Int)] [] (hp N' L B' G') Q) : WP d 222 1027 [.ref 1000, .ref 0, .ref 82, vI (i : Int)] [] (hp N L B G) Q := by
  obtain ⟨H, P, T, tl, n, nx, uc, a, th, rcs, s, I, J, ti, hc, hm, hp', hb⟩ := h
  have e1 : ((i : Int) + 1).toNat = i + 1 := by omega
  have e2 : ((i : Int) + 2).toNat = i + 2 := by omega
  have e3 : ((i : Int) + 3).toNat = i + 3 := by omega
  have e4 : ((i : Int) + 4).toNat = i + 4 := by omega
  have e5 : ((i : Int) + 5).toNat = i + 5 := by omega
  have s1 := sp83 (d := d) (N := N) (L := L) (B := B) (z := (xs (i + 1)).toInt) (i := (xs (i + 2)).toInt) (by omega) hc.1.1 hp'.1.1 hc.1.2 (CI_upl hc hp') hc.2.2.1 hp'.2.2.1 (xr _) (xr _)
  have hm1 := hm
  have hc1 := hc
  have s2 := sp186 (d := d) (N := N) (L := L) (B := B) (z := (xs (i + 1)).toInt) (i := (xs (i + 2)).toInt) (by omega) (MI_ms hm1 hp') hm1.2.2.1 hp'.2.2.1 (xr _) (xr _)
  have hc2 := hc1
  have hm2 := hm1
  have := hn N B G ⟨H, P, T, tl, n, nx, uc, a, th, rcs, s, I, J, ti, hc2, hm2, hp', hb⟩
  simp (disch := omega) only [s222_1027, s222_1028, s222_1029, s222_1030, s222_1031, m222_1032, s222_1033, s222_1034, s222_1035, s222_1036, m222_1037, s222_1041, s222_1042, s222_1043, s222_1044, s222_1045, m222_1046, s222_1047, s222_1048, s222_1049, s222_1050, m222_1051, Int.toNat_natCast, Int.toNat_natCast, Nat.reduceAdd, Nat.reduceMul, Int.reduceToNat, Int.reduceAdd, Int.reduceLT, Int.reduceLE, Int.reduceEq, Int.reduceNeg, Int.reduceMul, Int.reduceSub, Nat.reduceSub, reduceIte, ite_true, ite_false, and_true, true_and, and_self, hb, e1, e2, e3, e4, e5, m222_1038 s1, m222_1052 s2, k222_1055]
  exact this
theorem case32 {d L i N : Nat} {B : q_Bv} {G : q_Gi} {xs : Nat → Int32} {Q : Option Value → q_H → Prop} (hd : 40 ≤ d) (hi : i + 6 ≤ L) (hL : L ≤ 3072) (h : INV xs N B G) (hn : ∀ (N' : Nat) (B' : q_Bv) (G' : q_Gi), INV xs N' B' G' → WP d 222 1421 [.ref 1000, .ref 0, .ref 82, vI (i : Int)] [] (hp N' L B' G') Q) : WP d 222 1086 [.ref 1000, .ref 0, .ref 82, vI (i : Int)] [] (hp N L B G) Q := by
  obtain ⟨H, P, T, tl, n, nx, uc, a, th, rcs, s, I, J, ti, hc, hm, hp', hb⟩ := h
  have e1 : ((i : Int) + 1).toNat = i + 1 := by omega
  have e2 : ((i : Int) + 2).toNat = i + 2 := by omega
  have e3 : ((i : Int) + 3).toNat = i + 3 := by omega
  have e4 : ((i : Int) + 4).toNat = i + 4 := by omega
  have e5 : ((i : Int) + 5).toNat = i + 5 := by omega
  obtain ⟨G1, s1, v1, f1⟩ := sp86 (d := d) (N := N) (L := L) (B := B) (b := (xs (i + 1)).toInt) (a := (xs (i + 2)).toInt) (x := (xs (i + 3)).toInt) (by omega) hc.1.1 hp'.1.1 (xr _) (xr _)
  have hc1 := CI_a f1 v1 hc
  have hm1 := MI_c (fun c x => f1 c (by omega) (by omega)) hm
  obtain ⟨G2, s2, v2, f2⟩ := sp197 (d := d) (N := N) (L := L) (B := B) (b := (xs (i + 1)).toInt) (a := (xs (i + 2)).toInt) (x := (xs (i + 3)).toInt) (by omega) hm1.1.1 hp'.1.1 (xr _) (xr _)
  have hc2 := CI_c (fun c x => f2.1 c (by omega) (by omega)) hc1
  have hm2 := MI_a f2 v2 hm1
  have := hn N B G2 ⟨H, P, T, (actS H (xs (i + 1)).toInt (xs (i + 2)).toInt (xs (i + 3)).toInt).2, n, nx, uc, a, th, rcs, s, I, J, ti, hc2, hm2, hp', hb⟩
  simp (disch := omega) only [s222_1086, s222_1087, s222_1088, s222_1089, s222_1090, m222_1091, s222_1092, s222_1093, s222_1094, s222_1095, m222_1096, s222_1097, s222_1098, s222_1099, s222_1100, m222_1101, s222_1105, s222_1106, s222_1107, s222_1108, s222_1109, m222_1110, s222_1111, s222_1112, s222_1113, s222_1114, m222_1115, s222_1116, s222_1117, s222_1118, s222_1119, m222_1120, Int.toNat_natCast, Int.toNat_natCast, Nat.reduceAdd, Nat.reduceMul, Int.reduceToNat, Int.reduceAdd, Int.reduceLT, Int.reduceLE, Int.reduceEq, Int.reduceNeg, Int.reduceMul, Int.reduceSub, Nat.reduceSub, reduceIte, ite_true, ite_false, and_true, true_and, and_self, hb, e1, e2, e3, e4, e5, m222_1102 s1, m222_1121 s2, k222_1124]
  exact this
theorem case34 {d L i N : Nat} {B : q_Bv} {G : q_Gi} {xs : Nat → Int32} {Q : Option Value → q_H → Prop} (hd : 40 ≤ d) (hi : i + 6 ≤ L) (hL : L ≤ 3072) (h : INV xs N B G) (hn : ∀ (N' : Nat) (B' : q_Bv) (G' : q_Gi), INV xs N' B' G' → WP d 222 1421 [.ref 1000, .ref 0, .ref 82, vI (i : Int)] [] (hp N' L B' G') Q) : WP d 222 1152 [.ref 1000, .ref 0, .ref 82, vI (i : Int)] [] (hp N L B G) Q := by
  obtain ⟨H, P, T, tl, n, nx, uc, a, th, rcs, s, I, J, ti, hc, hm, hp', hb⟩ := h
  have e1 : ((i : Int) + 1).toNat = i + 1 := by omega
  have e2 : ((i : Int) + 2).toNat = i + 2 := by omega
  have e3 : ((i : Int) + 3).toNat = i + 3 := by omega
  have e4 : ((i : Int) + 4).toNat = i + 4 := by omega
  have e5 : ((i : Int) + 5).toNat = i + 5 := by omega
  have s1 := sp88 (d := d) (N := N) (L := L) (B := B) (b := (xs (i + 1)).toInt) (k := (xs (i + 2)).toInt) (by omega) hc.1.1 hp'.1.1 (xr _) (xr _)
  have hm1 := hm
  have hc1 := hc
  have s2 := sp199 (d := d) (N := N) (L := L) (B := B) (b := (xs (i + 1)).toInt) (k := (xs (i + 2)).toInt) (by omega) hm1.1.1 hp'.1.1 (xr _) (xr _)
  have hc2 := hc1
  have hm2 := hm1
  have := hn N B G ⟨H, P, T, tl, n, nx, uc, a, th, rcs, s, I, J, ti, hc2, hm2, hp', hb⟩
  simp (disch := omega) only [s222_1152, s222_1153, s222_1154, s222_1155, s222_1156, m222_1157, s222_1158, s222_1159, s222_1160, s222_1161, m222_1162, s222_1166, s222_1167, s222_1168, s222_1169, s222_1170, m222_1171, s222_1172, s222_1173, s222_1174, s222_1175, m222_1176, Int.toNat_natCast, Int.toNat_natCast, Nat.reduceAdd, Nat.reduceMul, Int.reduceToNat, Int.reduceAdd, Int.reduceLT, Int.reduceLE, Int.reduceEq, Int.reduceNeg, Int.reduceMul, Int.reduceSub, Nat.reduceSub, reduceIte, ite_true, ite_false, and_true, true_and, and_self, hb, e1, e2, e3, e4, e5, m222_1163 s1, m222_1177 s2, k222_1180]
  exact this
theorem case36 {d L i N : Nat} {B : q_Bv} {G : q_Gi} {xs : Nat → Int32} {Q : Option Value → q_H → Prop} (hd : 40 ≤ d) (hi : i + 6 ≤ L) (hL : L ≤ 3072) (h : INV xs N B G) (hn : ∀ (N' : Nat) (B' : q_Bv) (G' : q_Gi), INV xs N' B' G' → WP d 222 1421 [.ref 1000, .ref 0, .ref 82, vI (i : Int)] [] (hp N' L B' G') Q) : WP d 222 1208 [.ref 1000, .ref 0, .ref 82, vI (i : Int)] [] (hp N L B G) Q := by
  obtain ⟨H, P, T, tl, n, nx, uc, a, th, rcs, s, I, J, ti, hc, hm, hp', hb⟩ := h
  have e1 : ((i : Int) + 1).toNat = i + 1 := by omega
  have e2 : ((i : Int) + 2).toNat = i + 2 := by omega
  have e3 : ((i : Int) + 3).toNat = i + 3 := by omega
  have e4 : ((i : Int) + 4).toNat = i + 4 := by omega
  have e5 : ((i : Int) + 5).toNat = i + 5 := by omega
  obtain ⟨G1, s1, v1, f1⟩ := sp90 (d := d) (N := N) (L := L) (B := B) (z := (xs (i + 1)).toInt) (s := (xs (i + 2)).toInt) (n := (xs (i + 3)).toInt) (by omega) hc.2.2.1 (xr _) (xr _) (xr _)
  have hc1 := CI_t f1 v1 hc
  have hm1 := MI_c (fun c x => f1 c (by omega)) hm
  obtain ⟨G2, s2, v2, f2⟩ := sp202 (d := d) (N := N) (L := L) (B := B) (z := (xs (i + 1)).toInt) (s := (xs (i + 2)).toInt) (n := (xs (i + 3)).toInt) (by omega) hm1.2.2.1 (xr _) (xr _) (xr _)
  have hc2 := CI_c (fun c x => f2 c (by omega)) hc1
  have hm2 := MI_t f2 v2 hm1
  have := hn N B G2 ⟨H, P, (x90 T (xs (i + 1)).toInt (xs (i + 2)).toInt (xs (i + 3)).toInt).2, tl, n, nx, uc, a, th, rcs, s, I, J, ti, hc2, hm2, ⟨hp'.1, hp'.2.1, x90_ok hp'.2.2.1, hp'.2.2.2⟩, hb⟩
  simp (disch := omega) only [s222_1208, s222_1209, s222_1210, s222_1211, s222_1212, m222_1213, s222_1214, s222_1215, s222_1216, s222_1217, m222_1218, s222_1219, s222_1220, s222_1221, s222_1222, m222_1223, s222_1227, s222_1228, s222_1229, s222_1230, s222_1231, m222_1232, s222_1233, s222_1234, s222_1235, s222_1236, m222_1237, s222_1238, s222_1239, s222_1240, s222_1241, m222_1242, Int.toNat_natCast, Int.toNat_natCast, Nat.reduceAdd, Nat.reduceMul, Int.reduceToNat, Int.reduceAdd, Int.reduceLT, Int.reduceLE, Int.reduceEq, Int.reduceNeg, Int.reduceMul, Int.reduceSub, Nat.reduceSub, reduceIte, ite_true, ite_false, and_true, true_and, and_self, hb, e1, e2, e3, e4, e5, m222_1224 s1, m222_1243 s2, k222_1246]
  exact this
theorem case37 {d L i N : Nat} {B : q_Bv} {G : q_Gi} {xs : Nat → Int32} {Q : Option Value → q_H → Prop} (hd : 40 ≤ d) (hi : i + 6 ≤ L) (hL : L ≤ 3072) (h : INV xs N B G) (hn : ∀ (N' : Nat) (B' : q_Bv) (G' : q_Gi), INV xs N' B' G' → WP d 222 1421 [.ref 1000, .ref 0, .ref 82, vI (i : Int)] [] (hp N' L B' G') Q) : WP d 222 1251 [.ref 1000, .ref 0, .ref 82, vI (i : Int)] [] (hp N L B G) Q := by
  obtain ⟨H, P, T, tl, n, nx, uc, a, th, rcs, s, I, J, ti, hc, hm, hp', hb⟩ := h
  have e1 : ((i : Int) + 1).toNat = i + 1 := by omega
  have e2 : ((i : Int) + 2).toNat = i + 2 := by omega
  have e3 : ((i : Int) + 3).toNat = i + 3 := by omega
  have e4 : ((i : Int) + 4).toNat = i + 4 := by omega
  have e5 : ((i : Int) + 5).toNat = i + 5 := by omega
  obtain ⟨G1, s1, v1, f1⟩ := sp91 (d := d) (N := N) (L := L) (B := B) (z := (xs (i + 1)).toInt) (i := (xs (i + 2)).toInt) (v := lor (lshl (xs (i + 3)).toInt 32) (land (xs (i + 4)).toInt 4294967295)) (by omega) hc.2.2.1 hp'.2.2.1 (xr _) (xr _) (lr_lor _ _)
  have hc1 := CI_t f1 v1 hc
  have hm1 := MI_c (fun c x => f1 c (by omega)) hm
  obtain ⟨G2, s2, v2, f2⟩ := sp204 (d := d) (N := N) (L := L) (B := B) (z := (xs (i + 1)).toInt) (i := (xs (i + 2)).toInt) (v := lor (lshl (xs (i + 3)).toInt 32) (land (xs (i + 4)).toInt 4294967295)) (by omega) hm1.2.2.1 hp'.2.2.1 (xr _) (xr _) (lr_lor _ _)
  have hc2 := CI_c (fun c x => f2 c (by omega)) hc1
  have hm2 := MI_t f2 v2 hm1
  have r3 := xr (xs (i + 3))
  have r4 := xr (xs (i + 4))
  have := hn N B G2 ⟨H, P, (x91 T (xs (i + 1)).toInt (xs (i + 2)).toInt (lor (lshl (xs (i + 3)).toInt 32) (land (xs (i + 4)).toInt 4294967295))).2, tl, n, nx, uc, a, th, rcs, s, I, J, ti, hc2, hm2, ⟨hp'.1, hp'.2.1, x91_ok (lr_lor _ _) hp'.2.2.1, hp'.2.2.2⟩, hb⟩
  simp (disch := omega) only [s222_1251, s222_1252, s222_1253, s222_1254, s222_1255, m222_1256, s222_1257, s222_1258, s222_1259, s222_1260, m222_1261, s222_1262, s222_1263, s222_1264, s222_1265, m222_1266, s222_1267, s222_1268, s222_1270, s222_1271, s222_1272, s222_1273, s222_1274, m222_1275, s222_1276, s222_1277, s222_1280, s222_1281, s222_1285, s222_1286, s222_1287, s222_1288, s222_1289, m222_1290, s222_1291, s222_1292, s222_1293, s222_1294, m222_1295, s222_1296, s222_1297, s222_1298, s222_1299, m222_1300, s222_1301, s222_1302, s222_1304, s222_1305, s222_1306, s222_1307, s222_1308, m222_1309, s222_1310, s222_1311, s222_1314, s222_1315, Int.toNat_natCast, Int.toNat_natCast, Nat.reduceAdd, Nat.reduceMul, Int.reduceToNat, Int.reduceAdd, Int.reduceLT, Int.reduceLE, Int.reduceEq, Int.reduceNeg, Int.reduceMul, Int.reduceSub, Nat.reduceSub, reduceIte, ite_true, ite_false, and_true, true_and, and_self, hb, e1, e2, e3, e4, e5, m222_1282 s1, m222_1316 s2, k222_1319]
  exact this
theorem case38 {d L i N : Nat} {B : q_Bv} {G : q_Gi} {xs : Nat → Int32} {Q : Option Value → q_H → Prop} (hd : 40 ≤ d) (hi : i + 6 ≤ L) (hL : L ≤ 3072) (h : INV xs N B G) (hn : ∀ (N' : Nat) (B' : q_Bv) (G' : q_Gi), INV xs N' B' G' → WP d 222 1421 [.ref 1000, .ref 0, .ref 82, vI (i : Int)] [] (hp N' L B' G') Q) : WP d 222 1324 [.ref 1000, .ref 0, .ref 82, vI (i : Int)] [] (hp N L B G) Q := by
  obtain ⟨H, P, T, tl, n, nx, uc, a, th, rcs, s, I, J, ti, hc, hm, hp', hb⟩ := h
  have e1 : ((i : Int) + 1).toNat = i + 1 := by omega
  have e2 : ((i : Int) + 2).toNat = i + 2 := by omega
  have e3 : ((i : Int) + 3).toNat = i + 3 := by omega
  have e4 : ((i : Int) + 4).toNat = i + 4 := by omega
  have e5 : ((i : Int) + 5).toNat = i + 5 := by omega
  have s1 := sp92 (d := d) (N := N) (L := L) (B := B) (z := (xs (i + 1)).toInt) (i := (xs (i + 2)).toInt) (by omega) hc.2.2.1 hp'.2.2.1 (xr _) (xr _)
  have hm1 := hm
  have hc1 := hc
  have s2 := sp205 (d := d) (N := N) (L := L) (B := B) (z := (xs (i + 1)).toInt) (i := (xs (i + 2)).toInt) (by omega) hm1.2.2.1 hp'.2.2.1 (xr _) (xr _)
  have hc2 := hc1
  have hm2 := hm1
  have := hn N B G ⟨H, P, T, tl, n, nx, uc, a, th, rcs, s, I, J, ti, hc2, hm2, hp', hb⟩
  simp (disch := omega) only [s222_1324, s222_1325, s222_1326, s222_1327, s222_1328, m222_1329, s222_1330, s222_1331, s222_1332, s222_1333, m222_1334, s222_1338, s222_1339, s222_1340, s222_1341, s222_1342, m222_1343, s222_1344, s222_1345, s222_1346, s222_1347, m222_1348, Int.toNat_natCast, Int.toNat_natCast, Nat.reduceAdd, Nat.reduceMul, Int.reduceToNat, Int.reduceAdd, Int.reduceLT, Int.reduceLE, Int.reduceEq, Int.reduceNeg, Int.reduceMul, Int.reduceSub, Nat.reduceSub, reduceIte, ite_true, ite_false, and_true, true_and, and_self, hb, e1, e2, e3, e4, e5, m222_1335 s1, m222_1349 s2, k222_1352]
  exact this
theorem case39 {d L i N : Nat} {B : q_Bv} {G : q_Gi} {xs : Nat → Int32} {Q : Option Value → q_H → Prop} (hd : 40 ≤ d) (hi : i + 6 ≤ L) (hL : L ≤ 3072) (h : INV xs N B G) (hn : ∀ (N' : Nat) (B' : q_Bv) (G' : q_Gi), INV xs N' B' G' → WP d 222 1421 [.ref 1000, .ref 0, .ref 82, vI (i : Int)] [] (hp N' L B' G') Q) : WP d 222 1358 [.ref 1000, .ref 0, .ref 82, vI (i : Int)] [] (hp N L B G) Q := by
  obtain ⟨H, P, T, tl, n, nx, uc, a, th, rcs, s, I, J, ti, hc, hm, hp', hb⟩ := h
  have e1 : ((i : Int) + 1).toNat = i + 1 := by omega
  have e2 : ((i : Int) + 2).toNat = i + 2 := by omega
  have e3 : ((i : Int) + 3).toNat = i + 3 := by omega
  have e4 : ((i : Int) + 4).toNat = i + 4 := by omega
  have e5 : ((i : Int) + 5).toNat = i + 5 := by omega
  obtain ⟨G1, s1, v1, f1⟩ := sp93 (d := d) (N := N) (L := L) (B := B) (z := (xs (i + 1)).toInt) (i := (xs (i + 2)).toInt) (o := (xs (i + 3)).toInt) (k := (xs (i + 4)).toInt) (n := (xs (i + 5)).toInt) (by omega) hc.2.2.1 hp'.2.2.1 (xr _) (xr _) (xr _) (xr _) (xr _)
  have hc1 := CI_t f1 v1 hc
  have hm1 := MI_c (fun c x => f1 c (by omega)) hm
  obtain ⟨G2, s2, v2, f2⟩ := sp206 (d := d) (N := N) (L := L) (B := B) (z := (xs (i + 1)).toInt) (i := (xs (i + 2)).toInt) (o := (xs (i + 3)).toInt) (k := (xs (i + 4)).toInt) (n := (xs (i + 5)).toInt) (by omega) hm1.2.2.1 hp'.2.2.1 (xr _) (xr _) (xr _) (xr _) (xr _)
  have hc2 := CI_c (fun c x => f2 c (by omega)) hc1
  have hm2 := MI_t f2 v2 hm1
  have := hn N B G2 ⟨H, P, (x93 T (xs (i + 1)).toInt (xs (i + 2)).toInt (xs (i + 3)).toInt (xs (i + 4)).toInt (xs (i + 5)).toInt).2, tl, n, nx, uc, a, th, rcs, s, I, J, ti, hc2, hm2, ⟨hp'.1, hp'.2.1, x93_ok hp'.2.2.1, hp'.2.2.2⟩, hb⟩
  simp (disch := omega) only [s222_1358, s222_1359, s222_1360, s222_1361, s222_1362, m222_1363, s222_1364, s222_1365, s222_1366, s222_1367, m222_1368, s222_1369, s222_1370, s222_1371, s222_1372, m222_1373, s222_1374, s222_1375, s222_1376, s222_1377, m222_1378, s222_1379, s222_1380, s222_1381, s222_1382, m222_1383, s222_1387, s222_1388, s222_1389, s222_1390, s222_1391, m222_1392, s222_1393, s222_1394, s222_1395, s222_1396, m222_1397, s222_1398, s222_1399, s222_1400, s222_1401, m222_1402, s222_1403, s222_1404, s222_1405, s222_1406, m222_1407, s222_1408, s222_1409, s222_1410, s222_1411, m222_1412, Int.toNat_natCast, Int.toNat_natCast, Nat.reduceAdd, Nat.reduceMul, Int.reduceToNat, Int.reduceAdd, Int.reduceLT, Int.reduceLE, Int.reduceEq, Int.reduceNeg, Int.reduceMul, Int.reduceSub, Nat.reduceSub, reduceIte, ite_true, ite_false, and_true, true_and, and_self, hb, e1, e2, e3, e4, e5, m222_1384 s1, m222_1413 s2, k222_1416]
  exact this
