/-! steps of the methods 222 to 222, by program (wip/whole/gen_steps2.py) -/
section
variable {d : Nat} {st : List Value} {N L : Nat} {M : Nat → Nat → Value} {X : q_H} {Q : Option Value → q_H → Prop}
/-! 222 BellsThatEatLaw.law -/
theorem e222 {d : Nat} {X : q_H}  {r : Option Value} {X' : q_H} (hd : 1 ≤ d) (h : WP (d - 1) 222 0 [.ref 1000, .null, .null, .null] [] X (fun r1 X1 => r1 = r ∧ X1 = X')) : Sp d 222 [.ref 1000] X r X' := Sp.of1 hd (vs := [.ref 1000]) (ls := [.ref 1000, .null, .null, .null]) (by rfl) (by rfl) h
theorem E222 {d : Nat} {X : q_H}  {Q : Option Value → q_H → Prop} (hd : 1 ≤ d) (h : WP (d - 1) 222 0 [.ref 1000, .null, .null, .null] [] X Q) : ∃ r X', Sp d 222 [.ref 1000] X r X' ∧ Q r X' := Sp.of2 hd (vs := [.ref 1000]) (ls := [.ref 1000, .null, .null, .null]) (by rfl) (by rfl) h
set_option maxRecDepth 100000 in
theorem s222_0 {l0 l1 l2 l3 : Value} (hN : N < 1000) (hs : q_sh N = (8, 13)) : WP d 222 0 [l0, l1, l2, l3] (st) (N, L, M) Q = WP d 222 3 [l0, l1, l2, l3] (.ref N :: st) (N + 1, L, mk M N (fun j => defaultValue (q_ty 8 j))) Q := w_new (by rfl) (by rfl) hN (by decide) (by rfl) hs rfl
set_option maxRecDepth 100000 in
theorem s222_3 {l0 l1 l2 l3 : Value} {a1 : Nat} : WP d 222 3 [l0, l1, l2, l3] (.ref a1 :: st) X Q = WP d 222 4 [l0, l1, l2, l3] (.ref a1 :: .ref a1 :: st) X Q := w_dup (by rfl) rfl
set_option maxRecDepth 100000 in
theorem c222_4 {l0 l1 l2 l3 : Value} {x0 : Value} {X' : q_H} (hN : 0 < N) (hS : Sp d 53 [.ref 0] (N, L, M) none X') : WP d 222 4 [l0, l1, l2, l3] (.ref 0 :: x0 :: []) (N, L, M) Q = WP d 222 7 [l0, l1, l2, l3] (x0 :: []) X' Q := w_calli (vs := []) (by rfl) (by rfl) rfl (Nat.le_of_ble_eq_true rfl) (kd := 8) (by rfl) (by decide) (Or.inl hN) (by rfl) hS
set_option maxRecDepth 100000 in
theorem s222_7 {l1 l2 l3 : Value} {b1 : Nat} {a2 : Nat} (ha : a2 ≠ 1004) : WP d 222 7 [.ref b1, l1, l2, l3] (.ref a2 :: st) X Q = WP d 222 8 [.ref b1, .ref a2, l2, l3] (st) X Q := w_astore_n (by rfl) ha (q_okb_s rfl rfl) (Nat.le_of_ble_eq_true rfl) rfl
set_option maxRecDepth 100000 in
theorem s222_8 {l0 l1 l2 l3 : Value} (hN : N < 1000) (hs : q_sh N = (9, 74)) : WP d 222 8 [l0, l1, l2, l3] (st) (N, L, M) Q = WP d 222 11 [l0, l1, l2, l3] (.ref N :: st) (N + 1, L, mk M N (fun j => defaultValue (q_ty 9 j))) Q := w_new (by rfl) (by rfl) hN (by decide) (by rfl) hs rfl
set_option maxRecDepth 100000 in
theorem s222_11 {l0 l1 l2 l3 : Value} {a1 : Nat} : WP d 222 11 [l0, l1, l2, l3] (.ref a1 :: st) X Q = WP d 222 12 [l0, l1, l2, l3] (.ref a1 :: .ref a1 :: st) X Q := w_dup (by rfl) rfl
set_option maxRecDepth 100000 in
theorem c222_12 {l0 l1 l2 l3 : Value} {x0 : Value} {X' : q_H} (hN : 82 < N) (hS : Sp d 108 [.ref 82] (N, L, M) none X') : WP d 222 12 [l0, l1, l2, l3] (.ref 82 :: x0 :: []) (N, L, M) Q = WP d 222 15 [l0, l1, l2, l3] (x0 :: []) X' Q := w_calli (vs := []) (by rfl) (by rfl) rfl (Nat.le_of_ble_eq_true rfl) (kd := 9) (by rfl) (by decide) (Or.inl hN) (by rfl) hS
set_option maxRecDepth 100000 in
theorem s222_15 {l0 l2 l3 : Value} {b1 : Nat} {a2 : Nat} (ha : a2 ≠ 1004) : WP d 222 15 [l0, .ref b1, l2, l3] (.ref a2 :: st) X Q = WP d 222 16 [l0, .ref b1, .ref a2, l3] (st) X Q := w_astore_n (by rfl) ha (q_okb_s rfl rfl) (Nat.le_of_ble_eq_true rfl) rfl
set_option maxRecDepth 100000 in
theorem s222_16 {l0 l1 l2 l3 : Value}  : WP d 222 16 [l0, l1, l2, l3] (st) X Q = WP d 222 17 [l0, l1, l2, l3] (vI (0) :: st) X Q := w_iconst (by rfl)
set_option maxRecDepth 100000 in
theorem s222_17 {l0 l1 l3 : Value} {b1 : Nat} {z2 : Int} : WP d 222 17 [l0, l1, .ref b1, l3] (vI z2 :: st) X Q = WP d 222 18 [l0, l1, .ref b1, vI z2] (st) X Q := w_istore_n (by rfl) (q_okb_s rfl rfl) (Nat.le_of_ble_eq_true rfl) rfl
set_option maxRecDepth 100000 in
theorem s222_18 {l0 l1 l2 : Value} {z1 : Int} : WP d 222 18 [l0, l1, l2, vI z1] (st) X Q = WP d 222 19 [l0, l1, l2, vI z1] (vI z1 :: st) X Q := w_iload_n (by rfl) rfl
set_option maxRecDepth 100000 in
theorem s222_19 {l1 l2 l3 : Value}  : WP d 222 19 [.ref 1000, l1, l2, l3] (st) X Q = WP d 222 20 [.ref 1000, l1, l2, l3] (.ref 1000 :: st) X Q := w_aload_n (by rfl) rfl (by decide)
set_option maxRecDepth 100000 in
theorem s222_20 {l0 l1 l2 l3 : Value}  : WP d 222 20 [l0, l1, l2, l3] (.ref 1000 :: st) (N, L, M) Q = WP d 222 21 [l0, l1, l2, l3] (vI (L : Int) :: st) (N, L, M) Q := w_alenS (by rfl)
set_option maxRecDepth 100000 in
theorem s222_21 {l0 l1 l2 l3 : Value}  : WP d 222 21 [l0, l1, l2, l3] (st) X Q = WP d 222 23 [l0, l1, l2, l3] (vI (6) :: st) X Q := w_bipush (by rfl) (by decide)
set_option maxRecDepth 100000 in
theorem s222_23 {l0 l1 l2 l3 : Value} {z1 : Int} {z2 : Int} : WP d 222 23 [l0, l1, l2, l3] (vI z2 :: vI z1 :: st) X Q = WP d 222 24 [l0, l1, l2, l3] (vI (z1 - z2) :: st) X Q := w_isub (by rfl)
set_option maxRecDepth 100000 in
theorem s222_24 {l0 l1 l2 l3 : Value} {z1 : Int} {z2 : Int} (h1 : -2147483648 ≤ z1 ∧ z1 ≤ 2147483647) (h2 : -2147483648 ≤ z2 ∧ z2 ≤ 2147483647) : WP d 222 24 [l0, l1, l2, l3] (vI z2 :: vI z1 :: st) X Q = if z2 < z1 then WP d 222 1427 [l0, l1, l2, l3] (st) X Q else WP d 222 27 [l0, l1, l2, l3] (st) X Q := w_icmpgt (by rfl) (by decide) h1 h2
set_option maxRecDepth 100000 in
theorem s222_27 {l1 l2 l3 : Value}  : WP d 222 27 [.ref 1000, l1, l2, l3] (st) X Q = WP d 222 28 [.ref 1000, l1, l2, l3] (.ref 1000 :: st) X Q := w_aload_n (by rfl) rfl (by decide)
set_option maxRecDepth 100000 in
theorem s222_28 {l0 l1 l2 : Value} {z1 : Int} : WP d 222 28 [l0, l1, l2, vI z1] (st) X Q = WP d 222 29 [l0, l1, l2, vI z1] (vI z1 :: st) X Q := w_iload_n (by rfl) rfl
set_option maxRecDepth 100000 in
theorem s222_29 {l0 l1 l2 l3 : Value} {j1 : Int} (hj : 0 ≤ j1 ∧ j1 < (L : Int)) (hm : L ≤ 2147483647) : WP d 222 29 [l0, l1, l2, l3] (vI j1 :: .ref 1000 :: st) (N, L, M) Q = WP d 222 30 [l0, l1, l2, l3] (M 1000 j1.toNat :: st) (N, L, M) Q := w_ialdS (by rfl) hj hm
set_option maxRecDepth 100000 in
theorem s222_30 {l0 l1 l2 l3 : Value}  : WP d 222 30 [l0, l1, l2, l3] (st) X Q = WP d 222 32 [l0, l1, l2, l3] (vI (63) :: st) X Q := w_bipush (by rfl) (by decide)
set_option maxRecDepth 100000 in
theorem s222_32 {l0 l1 l2 l3 : Value} {z1 : Int} {z2 : Int} : WP d 222 32 [l0, l1, l2, l3] (vI z2 :: vI z1 :: st) X Q = WP d 222 33 [l0, l1, l2, l3] (vI (iand z1 z2) :: st) X Q := w_iand (by rfl)
set_option maxRecDepth 100000 in
theorem s222_33 {l0 l1 l2 l3 : Value} {z1 : Int} (h1 : -2147483648 ≤ z1 ∧ z1 ≤ 2147483647) : WP d 222 33 [l0, l1, l2, l3] (vI z1 :: st) X Q = if z1 = 0 then WP d 222 208 [l0, l1, l2, l3] (st) X Q else if z1 = 1 then WP d 222 251 [l0, l1, l2, l3] (st) X Q else if z1 = 2 then WP d 222 284 [l0, l1, l2, l3] (st) X Q else if z1 = 3 then WP d 222 317 [l0, l1, l2, l3] (st) X Q else if z1 = 4 then WP d 222 350 [l0, l1, l2, l3] (st) X Q else if z1 = 5 then WP d 222 393 [l0, l1, l2, l3] (st) X Q else if z1 = 6 then WP d 222 416 [l0, l1, l2, l3] (st) X Q else if z1 = 7 then WP d 222 429 [l0, l1, l2, l3] (st) X Q else if z1 = 8 then WP d 222 452 [l0, l1, l2, l3] (st) X Q else if z1 = 9 then WP d 222 485 [l0, l1, l2, l3] (st) X Q else if z1 = 10 then WP d 222 508 [l0, l1, l2, l3] (st) X Q else if z1 = 11 then WP d 222 531 [l0, l1, l2, l3] (st) X Q else if z1 = 12 then WP d 222 564 [l0, l1, l2, l3] (st) X Q else if z1 = 13 then WP d 222 597 [l0, l1, l2, l3] (st) X Q else if z1 = 14 then WP d 222 610 [l0, l1, l2, l3] (st) X Q else if z1 = 15 then WP d 222 643 [l0, l1, l2, l3] (st) X Q else if z1 = 16 then WP d 222 676 [l0, l1, l2, l3] (st) X Q else if z1 = 17 then WP d 222 699 [l0, l1, l2, l3] (st) X Q else if z1 = 18 then WP d 222 722 [l0, l1, l2, l3] (st) X Q else if z1 = 19 then WP d 222 745 [l0, l1, l2, l3] (st) X Q else if z1 = 20 then WP d 222 768 [l0, l1, l2, l3] (st) X Q else if z1 = 21 then WP d 222 781 [l0, l1, l2, l3] (st) X Q else if z1 = 22 then WP d 222 824 [l0, l1, l2, l3] (st) X Q else if z1 = 23 then WP d 222 857 [l0, l1, l2, l3] (st) X Q else if z1 = 24 then WP d 222 891 [l0, l1, l2, l3] (st) X Q else if z1 = 25 then WP d 222 925 [l0, l1, l2, l3] (st) X Q else if z1 = 26 then WP d 222 958 [l0, l1, l2, l3] (st) X Q else if z1 = 27 then WP d 222 981 [l0, l1, l2, l3] (st) X Q else if z1 = 28 then WP d 222 1014 [l0, l1, l2, l3] (st) X Q else if z1 = 29 then WP d 222 1027 [l0, l1, l2, l3] (st) X Q else if z1 = 30 then WP d 222 1060 [l0, l1, l2, l3] (st) X Q else if z1 = 31 then WP d 222 1073 [l0, l1, l2, l3] (st) X Q else if z1 = 32 then WP d 222 1086 [l0, l1, l2, l3] (st) X Q else if z1 = 33 then WP d 222 1129 [l0, l1, l2, l3] (st) X Q else if z1 = 34 then WP d 222 1152 [l0, l1, l2, l3] (st) X Q else if z1 = 35 then WP d 222 1185 [l0, l1, l2, l3] (st) X Q else if z1 = 36 then WP d 222 1208 [l0, l1, l2, l3] (st) X Q else if z1 = 37 then WP d 222 1251 [l0, l1, l2, l3] (st) X Q else if z1 = 38 then WP d 222 1324 [l0, l1, l2, l3] (st) X Q else if z1 = 39 then WP d 222 1358 [l0, l1, l2, l3] (st) X Q else WP d 222 1421 [l0, l1, l2, l3] (st) X Q := by
  by_cases e0 : z1 = 0
  · subst e0; rw [if_pos rfl]; exact w_tsw (by rfl) (by decide) (by decide) rfl (by decide)
  rw [if_neg e0]
  by_cases e1 : z1 = 1
  · subst e1; rw [if_pos rfl]; exact w_tsw (by rfl) (by decide) (by decide) rfl (by decide)
  rw [if_neg e1]
  by_cases e2 : z1 = 2
  · subst e2; rw [if_pos rfl]; exact w_tsw (by rfl) (by decide) (by decide) rfl (by decide)
  rw [if_neg e2]
  by_cases e3 : z1 = 3
  · subst e3; rw [if_pos rfl]; exact w_tsw (by rfl) (by decide) (by decide) rfl (by decide)
  rw [if_neg e3]
  by_cases e4 : z1 = 4
  · subst e4; rw [if_pos rfl]; exact w_tsw (by rfl) (by decide) (by decide) rfl (by decide)
  rw [if_neg e4]
  by_cases e5 : z1 = 5
  · subst e5; rw [if_pos rfl]; exact w_tsw (by rfl) (by decide) (by decide) rfl (by decide)
  rw [if_neg e5]
  by_cases e6 : z1 = 6
  · subst e6; rw [if_pos rfl]; exact w_tsw (by rfl) (by decide) (by decide) rfl (by decide)
  rw [if_neg e6]
  by_cases e7 : z1 = 7
  · subst e7; rw [if_pos rfl]; exact w_tsw (by rfl) (by decide) (by decide) rfl (by decide)
  rw [if_neg e7]
  by_cases e8 : z1 = 8
  · subst e8; rw [if_pos rfl]; exact w_tsw (by rfl) (by decide) (by decide) rfl (by decide)
  rw [if_neg e8]
  by_cases e9 : z1 = 9
  · subst e9; rw [if_pos rfl]; exact w_tsw (by rfl) (by decide) (by decide) rfl (by decide)
  rw [if_neg e9]
  by_cases e10 : z1 = 10
  · subst e10; rw [if_pos rfl]; exact w_tsw (by rfl) (by decide) (by decide) rfl (by decide)
  rw [if_neg e10]
  by_cases e11 : z1 = 11
  · subst e11; rw [if_pos rfl]; exact w_tsw (by rfl) (by decide) (by decide) rfl (by decide)
  rw [if_neg e11]
  by_cases e12 : z1 = 12
  · subst e12; rw [if_pos rfl]; exact w_tsw (by rfl) (by decide) (by decide) rfl (by decide)
  rw [if_neg e12]
  by_cases e13 : z1 = 13
  · subst e13; rw [if_pos rfl]; exact w_tsw (by rfl) (by decide) (by decide) rfl (by decide)
  rw [if_neg e13]
  by_cases e14 : z1 = 14
  · subst e14; rw [if_pos rfl]; exact w_tsw (by rfl) (by decide) (by decide) rfl (by decide)
  rw [if_neg e14]
  by_cases e15 : z1 = 15
  · subst e15; rw [if_pos rfl]; exact w_tsw (by rfl) (by decide) (by decide) rfl (by decide)
  rw [if_neg e15]
  by_cases e16 : z1 = 16
  · subst e16; rw [if_pos rfl]; exact w_tsw (by rfl) (by decide) (by decide) rfl (by decide)
  rw [if_neg e16]
  by_cases e17 : z1 = 17
  · subst e17; rw [if_pos rfl]; exact w_tsw (by rfl) (by decide) (by decide) rfl (by decide)
  rw [if_neg e17]
  by_cases e18 : z1 = 18
  · subst e18; rw [if_pos rfl]; exact w_tsw (by rfl) (by decide) (by decide) rfl (by decide)
  rw [if_neg e18]
  by_cases e19 : z1 = 19
  · subst e19; rw [if_pos rfl]; exact w_tsw (by rfl) (by decide) (by decide) rfl (by decide)
  rw [if_neg e19]
  by_cases e20 : z1 = 20
  · subst e20; rw [if_pos rfl]; exact w_tsw (by rfl) (by decide) (by decide) rfl (by decide)
  rw [if_neg e20]
  by_cases e21 : z1 = 21
  · subst e21; rw [if_pos rfl]; exact w_tsw (by rfl) (by decide) (by decide) rfl (by decide)
  rw [if_neg e21]
  by_cases e22 : z1 = 22
  · subst e22; rw [if_pos rfl]; exact w_tsw (by rfl) (by decide) (by decide) rfl (by decide)
  rw [if_neg e22]
  by_cases e23 : z1 = 23
  · subst e23; rw [if_pos rfl]; exact w_tsw (by rfl) (by decide) (by decide) rfl (by decide)
  rw [if_neg e23]
  by_cases e24 : z1 = 24
  · subst e24; rw [if_pos rfl]; exact w_tsw (by rfl) (by decide) (by decide) rfl (by decide)
  rw [if_neg e24]
  by_cases e25 : z1 = 25
  · subst e25; rw [if_pos rfl]; exact w_tsw (by rfl) (by decide) (by decide) rfl (by decide)
  rw [if_neg e25]
  by_cases e26 : z1 = 26
  · subst e26; rw [if_pos rfl]; exact w_tsw (by rfl) (by decide) (by decide) rfl (by decide)
  rw [if_neg e26]
  by_cases e27 : z1 = 27
  · subst e27; rw [if_pos rfl]; exact w_tsw (by rfl) (by decide) (by decide) rfl (by decide)
  rw [if_neg e27]
  by_cases e28 : z1 = 28
  · subst e28; rw [if_pos rfl]; exact w_tsw (by rfl) (by decide) (by decide) rfl (by decide)
  rw [if_neg e28]
  by_cases e29 : z1 = 29
  · subst e29; rw [if_pos rfl]; exact w_tsw (by rfl) (by decide) (by decide) rfl (by decide)
  rw [if_neg e29]
  by_cases e30 : z1 = 30
  · subst e30; rw [if_pos rfl]; exact w_tsw (by rfl) (by decide) (by decide) rfl (by decide)
  rw [if_neg e30]
  by_cases e31 : z1 = 31
  · subst e31; rw [if_pos rfl]; exact w_tsw (by rfl) (by decide) (by decide) rfl (by decide)
  rw [if_neg e31]
  by_cases e32 : z1 = 32
  · subst e32; rw [if_pos rfl]; exact w_tsw (by rfl) (by decide) (by decide) rfl (by decide)
  rw [if_neg e32]
  by_cases e33 : z1 = 33
  · subst e33; rw [if_pos rfl]; exact w_tsw (by rfl) (by decide) (by decide) rfl (by decide)
  rw [if_neg e33]
  by_cases e34 : z1 = 34
  · subst e34; rw [if_pos rfl]; exact w_tsw (by rfl) (by decide) (by decide) rfl (by decide)
  rw [if_neg e34]
  by_cases e35 : z1 = 35
  · subst e35; rw [if_pos rfl]; exact w_tsw (by rfl) (by decide) (by decide) rfl (by decide)
  rw [if_neg e35]
  by_cases e36 : z1 = 36
  · subst e36; rw [if_pos rfl]; exact w_tsw (by rfl) (by decide) (by decide) rfl (by decide)
  rw [if_neg e36]
  by_cases e37 : z1 = 37
  · subst e37; rw [if_pos rfl]; exact w_tsw (by rfl) (by decide) (by decide) rfl (by decide)
  rw [if_neg e37]
  by_cases e38 : z1 = 38
  · subst e38; rw [if_pos rfl]; exact w_tsw (by rfl) (by decide) (by decide) rfl (by decide)
  rw [if_neg e38]
  by_cases e39 : z1 = 39
  · subst e39; rw [if_pos rfl]; exact w_tsw (by rfl) (by decide) (by decide) rfl (by decide)
  rw [if_neg e39]
  exact w_tswd (by rfl) h1 (by omega) (by decide)
set_option maxRecDepth 100000 in
theorem s222_208 {l0 l2 l3 : Value}  : WP d 222 208 [l0, .ref 0, l2, l3] (st) X Q = WP d 222 209 [l0, .ref 0, l2, l3] (.ref 0 :: st) X Q := w_aload_n (by rfl) rfl (by decide)
set_option maxRecDepth 100000 in
theorem s222_209 {l1 l2 l3 : Value}  : WP d 222 209 [.ref 1000, l1, l2, l3] (st) X Q = WP d 222 210 [.ref 1000, l1, l2, l3] (.ref 1000 :: st) X Q := w_aload_n (by rfl) rfl (by decide)
set_option maxRecDepth 100000 in
theorem s222_210 {l0 l1 l2 : Value} {z1 : Int} : WP d 222 210 [l0, l1, l2, vI z1] (st) X Q = WP d 222 211 [l0, l1, l2, vI z1] (vI z1 :: st) X Q := w_iload_n (by rfl) rfl
set_option maxRecDepth 100000 in
theorem s222_211 {l0 l1 l2 l3 : Value}  : WP d 222 211 [l0, l1, l2, l3] (st) X Q = WP d 222 212 [l0, l1, l2, l3] (vI (1) :: st) X Q := w_iconst (by rfl)
set_option maxRecDepth 100000 in
theorem s222_212 {l0 l1 l2 l3 : Value} {z1 : Int} {z2 : Int} : WP d 222 212 [l0, l1, l2, l3] (vI z2 :: vI z1 :: st) X Q = WP d 222 213 [l0, l1, l2, l3] (vI (z1 + z2) :: st) X Q := w_iadd (by rfl)
set_option maxRecDepth 100000 in
theorem s222_213 {l0 l1 l2 l3 : Value} {j1 : Int} (hj : 0 ≤ j1 ∧ j1 < (L : Int)) (hm : L ≤ 2147483647) : WP d 222 213 [l0, l1, l2, l3] (vI j1 :: .ref 1000 :: st) (N, L, M) Q = WP d 222 214 [l0, l1, l2, l3] (M 1000 j1.toNat :: st) (N, L, M) Q := w_ialdS (by rfl) hj hm
set_option maxRecDepth 100000 in
theorem s222_214 {l1 l2 l3 : Value}  : WP d 222 214 [.ref 1000, l1, l2, l3] (st) X Q = WP d 222 215 [.ref 1000, l1, l2, l3] (.ref 1000 :: st) X Q := w_aload_n (by rfl) rfl (by decide)
set_option maxRecDepth 100000 in
theorem s222_215 {l0 l1 l2 : Value} {z1 : Int} : WP d 222 215 [l0, l1, l2, vI z1] (st) X Q = WP d 222 216 [l0, l1, l2, vI z1] (vI z1 :: st) X Q := w_iload_n (by rfl) rfl
set_option maxRecDepth 100000 in
theorem s222_216 {l0 l1 l2 l3 : Value}  : WP d 222 216 [l0, l1, l2, l3] (st) X Q = WP d 222 217 [l0, l1, l2, l3] (vI (2) :: st) X Q := w_iconst (by rfl)
set_option maxRecDepth 100000 in
theorem s222_217 {l0 l1 l2 l3 : Value} {z1 : Int} {z2 : Int} : WP d 222 217 [l0, l1, l2, l3] (vI z2 :: vI z1 :: st) X Q = WP d 222 218 [l0, l1, l2, l3] (vI (z1 + z2) :: st) X Q := w_iadd (by rfl)
set_option maxRecDepth 100000 in
theorem s222_218 {l0 l1 l2 l3 : Value} {j1 : Int} (hj : 0 ≤ j1 ∧ j1 < (L : Int)) (hm : L ≤ 2147483647) : WP d 222 218 [l0, l1, l2, l3] (vI j1 :: .ref 1000 :: st) (N, L, M) Q = WP d 222 219 [l0, l1, l2, l3] (M 1000 j1.toNat :: st) (N, L, M) Q := w_ialdS (by rfl) hj hm
set_option maxRecDepth 100000 in
theorem s222_219 {l1 l2 l3 : Value}  : WP d 222 219 [.ref 1000, l1, l2, l3] (st) X Q = WP d 222 220 [.ref 1000, l1, l2, l3] (.ref 1000 :: st) X Q := w_aload_n (by rfl) rfl (by decide)
set_option maxRecDepth 100000 in
theorem s222_220 {l0 l1 l2 : Value} {z1 : Int} : WP d 222 220 [l0, l1, l2, vI z1] (st) X Q = WP d 222 221 [l0, l1, l2, vI z1] (vI z1 :: st) X Q := w_iload_n (by rfl) rfl
set_option maxRecDepth 100000 in
theorem s222_221 {l0 l1 l2 l3 : Value}  : WP d 222 221 [l0, l1, l2, l3] (st) X Q = WP d 222 222 [l0, l1, l2, l3] (vI (3) :: st) X Q := w_iconst (by rfl)
set_option maxRecDepth 100000 in
theorem s222_222 {l0 l1 l2 l3 : Value} {z1 : Int} {z2 : Int} : WP d 222 222 [l0, l1, l2, l3] (vI z2 :: vI z1 :: st) X Q = WP d 222 223 [l0, l1, l2, l3] (vI (z1 + z2) :: st) X Q := w_iadd (by rfl)
set_option maxRecDepth 100000 in
theorem s222_223 {l0 l1 l2 l3 : Value} {j1 : Int} (hj : 0 ≤ j1 ∧ j1 < (L : Int)) (hm : L ≤ 2147483647) : WP d 222 223 [l0, l1, l2, l3] (vI j1 :: .ref 1000 :: st) (N, L, M) Q = WP d 222 224 [l0, l1, l2, l3] (M 1000 j1.toNat :: st) (N, L, M) Q := w_ialdS (by rfl) hj hm
set_option maxRecDepth 100000 in
theorem c222_224 {l0 l1 l2 l3 : Value} {z1 : Int} {z2 : Int} {z3 : Int} {r : Int} {X' : q_H} (hN : 0 < N) (hS : Sp d 54 [.ref 0, vI z1, vI z2, vI z3] (N, L, M) (some (vI r)) X') : WP d 222 224 [l0, l1, l2, l3] (vI z3 :: vI z2 :: vI z1 :: .ref 0 :: []) (N, L, M) Q = WP d 222 227 [l0, l1, l2, l3] (vI r :: []) X' Q := w_callv (vs := [vI z1, vI z2, vI z3]) (by rfl) (by rfl) rfl (Nat.le_of_ble_eq_true rfl) (kd := 8) (by rfl) (by decide) (Or.inl hN) (by rfl) hS
set_option maxRecDepth 100000 in
theorem s222_227 {l0 l1 l3 : Value}  : WP d 222 227 [l0, l1, .ref 82, l3] (st) X Q = WP d 222 228 [l0, l1, .ref 82, l3] (.ref 82 :: st) X Q := w_aload_n (by rfl) rfl (by decide)
set_option maxRecDepth 100000 in
theorem s222_228 {l1 l2 l3 : Value}  : WP d 222 228 [.ref 1000, l1, l2, l3] (st) X Q = WP d 222 229 [.ref 1000, l1, l2, l3] (.ref 1000 :: st) X Q := w_aload_n (by rfl) rfl (by decide)
set_option maxRecDepth 100000 in
theorem s222_229 {l0 l1 l2 : Value} {z1 : Int} : WP d 222 229 [l0, l1, l2, vI z1] (st) X Q = WP d 222 230 [l0, l1, l2, vI z1] (vI z1 :: st) X Q := w_iload_n (by rfl) rfl
set_option maxRecDepth 100000 in
theorem s222_230 {l0 l1 l2 l3 : Value}  : WP d 222 230 [l0, l1, l2, l3] (st) X Q = WP d 222 231 [l0, l1, l2, l3] (vI (1) :: st) X Q := w_iconst (by rfl)
set_option maxRecDepth 100000 in
theorem s222_231 {l0 l1 l2 l3 : Value} {z1 : Int} {z2 : Int} : WP d 222 231 [l0, l1, l2, l3] (vI z2 :: vI z1 :: st) X Q = WP d 222 232 [l0, l1, l2, l3] (vI (z1 + z2) :: st) X Q := w_iadd (by rfl)
set_option maxRecDepth 100000 in
theorem s222_232 {l0 l1 l2 l3 : Value} {j1 : Int} (hj : 0 ≤ j1 ∧ j1 < (L : Int)) (hm : L ≤ 2147483647) : WP d 222 232 [l0, l1, l2, l3] (vI j1 :: .ref 1000 :: st) (N, L, M) Q = WP d 222 233 [l0, l1, l2, l3] (M 1000 j1.toNat :: st) (N, L, M) Q := w_ialdS (by rfl) hj hm
set_option maxRecDepth 100000 in
theorem s222_233 {l1 l2 l3 : Value}  : WP d 222 233 [.ref 1000, l1, l2, l3] (st) X Q = WP d 222 234 [.ref 1000, l1, l2, l3] (.ref 1000 :: st) X Q := w_aload_n (by rfl) rfl (by decide)
set_option maxRecDepth 100000 in
theorem s222_234 {l0 l1 l2 : Value} {z1 : Int} : WP d 222 234 [l0, l1, l2, vI z1] (st) X Q = WP d 222 235 [l0, l1, l2, vI z1] (vI z1 :: st) X Q := w_iload_n (by rfl) rfl
set_option maxRecDepth 100000 in
theorem s222_235 {l0 l1 l2 l3 : Value}  : WP d 222 235 [l0, l1, l2, l3] (st) X Q = WP d 222 236 [l0, l1, l2, l3] (vI (2) :: st) X Q := w_iconst (by rfl)
set_option maxRecDepth 100000 in
theorem s222_236 {l0 l1 l2 l3 : Value} {z1 : Int} {z2 : Int} : WP d 222 236 [l0, l1, l2, l3] (vI z2 :: vI z1 :: st) X Q = WP d 222 237 [l0, l1, l2, l3] (vI (z1 + z2) :: st) X Q := w_iadd (by rfl)
set_option maxRecDepth 100000 in
theorem s222_237 {l0 l1 l2 l3 : Value} {j1 : Int} (hj : 0 ≤ j1 ∧ j1 < (L : Int)) (hm : L ≤ 2147483647) : WP d 222 237 [l0, l1, l2, l3] (vI j1 :: .ref 1000 :: st) (N, L, M) Q = WP d 222 238 [l0, l1, l2, l3] (M 1000 j1.toNat :: st) (N, L, M) Q := w_ialdS (by rfl) hj hm
set_option maxRecDepth 100000 in
theorem s222_238 {l1 l2 l3 : Value}  : WP d 222 238 [.ref 1000, l1, l2, l3] (st) X Q = WP d 222 239 [.ref 1000, l1, l2, l3] (.ref 1000 :: st) X Q := w_aload_n (by rfl) rfl (by decide)
set_option maxRecDepth 100000 in
theorem s222_239 {l0 l1 l2 : Value} {z1 : Int} : WP d 222 239 [l0, l1, l2, vI z1] (st) X Q = WP d 222 240 [l0, l1, l2, vI z1] (vI z1 :: st) X Q := w_iload_n (by rfl) rfl
set_option maxRecDepth 100000 in
theorem s222_240 {l0 l1 l2 l3 : Value}  : WP d 222 240 [l0, l1, l2, l3] (st) X Q = WP d 222 241 [l0, l1, l2, l3] (vI (3) :: st) X Q := w_iconst (by rfl)
set_option maxRecDepth 100000 in
theorem s222_241 {l0 l1 l2 l3 : Value} {z1 : Int} {z2 : Int} : WP d 222 241 [l0, l1, l2, l3] (vI z2 :: vI z1 :: st) X Q = WP d 222 242 [l0, l1, l2, l3] (vI (z1 + z2) :: st) X Q := w_iadd (by rfl)
set_option maxRecDepth 100000 in
theorem s222_242 {l0 l1 l2 l3 : Value} {j1 : Int} (hj : 0 ≤ j1 ∧ j1 < (L : Int)) (hm : L ≤ 2147483647) : WP d 222 242 [l0, l1, l2, l3] (vI j1 :: .ref 1000 :: st) (N, L, M) Q = WP d 222 243 [l0, l1, l2, l3] (M 1000 j1.toNat :: st) (N, L, M) Q := w_ialdS (by rfl) hj hm
set_option maxRecDepth 100000 in
theorem c222_243 {l0 l1 l2 l3 : Value} {x0 : Value} {z1 : Int} {z2 : Int} {z3 : Int} {r : Int} {X' : q_H} (hN : 82 < N) (hS : Sp d 117 [.ref 82, vI z1, vI z2, vI z3] (N, L, M) (some (vI r)) X') : WP d 222 243 [l0, l1, l2, l3] (vI z3 :: vI z2 :: vI z1 :: .ref 82 :: x0 :: []) (N, L, M) Q = WP d 222 246 [l0, l1, l2, l3] (vI r :: x0 :: []) X' Q := w_callv (vs := [vI z1, vI z2, vI z3]) (by rfl) (by rfl) rfl (Nat.le_of_ble_eq_true rfl) (kd := 9) (by rfl) (by decide) (Or.inl hN) (by rfl) hS
set_option maxRecDepth 100000 in
theorem s222_246 {l0 l1 l2 l3 : Value} {z1 : Int} {z2 : Int} (h1 : -2147483648 ≤ z1 ∧ z1 ≤ 2147483647) (h2 : -2147483648 ≤ z2 ∧ z2 ≤ 2147483647) : WP d 222 246 [l0, l1, l2, l3] (vI z2 :: vI z1 :: st) X Q = if z1 = z2 then WP d 222 1421 [l0, l1, l2, l3] (st) X Q else WP d 222 249 [l0, l1, l2, l3] (st) X Q := w_icmpeq (by rfl) (by decide) h1 h2
set_option maxRecDepth 100000 in
theorem s222_246b {l0 l1 l2 l3 : Value} {P R : Prop} [Decidable P] [Decidable R] : WP d 222 246 [l0, l1, l2, l3] (vI (bI R) :: vI (bI P) :: st) X Q = if (P ↔ R) then WP d 222 1421 [l0, l1, l2, l3] (st) X Q else WP d 222 249 [l0, l1, l2, l3] (st) X Q := w_icmpeqb (by rfl) (by decide)
set_option maxRecDepth 100000 in
theorem s222_249 {l0 l1 l2 l3 : Value}  : WP d 222 249 [l0, l1, l2, l3] (st) X Q = WP d 222 250 [l0, l1, l2, l3] (vI (0) :: st) X Q := w_iconst (by rfl)
set_option maxRecDepth 100000 in
theorem s222_250 {l0 l1 l2 l3 : Value} {z1 : Int} (hz : z1 = 0 ∨ z1 = 1) : WP d 222 250 [l0, l1, l2, l3] (vI z1 :: []) X Q = Q (some (vI z1)) X := w_iretz (by rfl) (by rfl) (nb_bool hz)
set_option maxRecDepth 100000 in
theorem s222_250b {l0 l1 l2 l3 : Value} {P : Prop} [Decidable P] : WP d 222 250 [l0, l1, l2, l3] (vI (bI P) :: []) X Q = Q (some (vI (bI P))) X := w_iretz (by rfl) (by rfl) (nb_bool (bI_01 P))
set_option maxRecDepth 100000 in
theorem s222_251 {l0 l2 l3 : Value}  : WP d 222 251 [l0, .ref 0, l2, l3] (st) X Q = WP d 222 252 [l0, .ref 0, l2, l3] (.ref 0 :: st) X Q := w_aload_n (by rfl) rfl (by decide)
set_option maxRecDepth 100000 in
theorem s222_252 {l1 l2 l3 : Value}  : WP d 222 252 [.ref 1000, l1, l2, l3] (st) X Q = WP d 222 253 [.ref 1000, l1, l2, l3] (.ref 1000 :: st) X Q := w_aload_n (by rfl) rfl (by decide)
set_option maxRecDepth 100000 in
theorem s222_253 {l0 l1 l2 : Value} {z1 : Int} : WP d 222 253 [l0, l1, l2, vI z1] (st) X Q = WP d 222 254 [l0, l1, l2, vI z1] (vI z1 :: st) X Q := w_iload_n (by rfl) rfl
set_option maxRecDepth 100000 in
theorem s222_254 {l0 l1 l2 l3 : Value}  : WP d 222 254 [l0, l1, l2, l3] (st) X Q = WP d 222 255 [l0, l1, l2, l3] (vI (1) :: st) X Q := w_iconst (by rfl)
set_option maxRecDepth 100000 in
theorem s222_255 {l0 l1 l2 l3 : Value} {z1 : Int} {z2 : Int} : WP d 222 255 [l0, l1, l2, l3] (vI z2 :: vI z1 :: st) X Q = WP d 222 256 [l0, l1, l2, l3] (vI (z1 + z2) :: st) X Q := w_iadd (by rfl)
set_option maxRecDepth 100000 in
theorem s222_256 {l0 l1 l2 l3 : Value} {j1 : Int} (hj : 0 ≤ j1 ∧ j1 < (L : Int)) (hm : L ≤ 2147483647) : WP d 222 256 [l0, l1, l2, l3] (vI j1 :: .ref 1000 :: st) (N, L, M) Q = WP d 222 257 [l0, l1, l2, l3] (M 1000 j1.toNat :: st) (N, L, M) Q := w_ialdS (by rfl) hj hm
set_option maxRecDepth 100000 in
theorem s222_257 {l1 l2 l3 : Value}  : WP d 222 257 [.ref 1000, l1, l2, l3] (st) X Q = WP d 222 258 [.ref 1000, l1, l2, l3] (.ref 1000 :: st) X Q := w_aload_n (by rfl) rfl (by decide)
set_option maxRecDepth 100000 in
theorem s222_258 {l0 l1 l2 : Value} {z1 : Int} : WP d 222 258 [l0, l1, l2, vI z1] (st) X Q = WP d 222 259 [l0, l1, l2, vI z1] (vI z1 :: st) X Q := w_iload_n (by rfl) rfl
set_option maxRecDepth 100000 in
theorem s222_259 {l0 l1 l2 l3 : Value}  : WP d 222 259 [l0, l1, l2, l3] (st) X Q = WP d 222 260 [l0, l1, l2, l3] (vI (2) :: st) X Q := w_iconst (by rfl)
set_option maxRecDepth 100000 in
theorem s222_260 {l0 l1 l2 l3 : Value} {z1 : Int} {z2 : Int} : WP d 222 260 [l0, l1, l2, l3] (vI z2 :: vI z1 :: st) X Q = WP d 222 261 [l0, l1, l2, l3] (vI (z1 + z2) :: st) X Q := w_iadd (by rfl)
set_option maxRecDepth 100000 in
theorem s222_261 {l0 l1 l2 l3 : Value} {j1 : Int} (hj : 0 ≤ j1 ∧ j1 < (L : Int)) (hm : L ≤ 2147483647) : WP d 222 261 [l0, l1, l2, l3] (vI j1 :: .ref 1000 :: st) (N, L, M) Q = WP d 222 262 [l0, l1, l2, l3] (M 1000 j1.toNat :: st) (N, L, M) Q := w_ialdS (by rfl) hj hm
set_option maxRecDepth 100000 in
theorem c222_262 {l0 l1 l2 l3 : Value} {z1 : Int} {z2 : Int} {r : Int} {X' : q_H} (hN : 0 < N) (hS : Sp d 55 [.ref 0, vI z1, vI z2] (N, L, M) (some (vI r)) X') : WP d 222 262 [l0, l1, l2, l3] (vI z2 :: vI z1 :: .ref 0 :: []) (N, L, M) Q = WP d 222 265 [l0, l1, l2, l3] (vI r :: []) X' Q := w_callv (vs := [vI z1, vI z2]) (by rfl) (by rfl) rfl (Nat.le_of_ble_eq_true rfl) (kd := 8) (by rfl) (by decide) (Or.inl hN) (by rfl) hS
set_option maxRecDepth 100000 in
theorem s222_265 {l0 l1 l3 : Value}  : WP d 222 265 [l0, l1, .ref 82, l3] (st) X Q = WP d 222 266 [l0, l1, .ref 82, l3] (.ref 82 :: st) X Q := w_aload_n (by rfl) rfl (by decide)
set_option maxRecDepth 100000 in
theorem s222_266 {l1 l2 l3 : Value}  : WP d 222 266 [.ref 1000, l1, l2, l3] (st) X Q = WP d 222 267 [.ref 1000, l1, l2, l3] (.ref 1000 :: st) X Q := w_aload_n (by rfl) rfl (by decide)
set_option maxRecDepth 100000 in
theorem s222_267 {l0 l1 l2 : Value} {z1 : Int} : WP d 222 267 [l0, l1, l2, vI z1] (st) X Q = WP d 222 268 [l0, l1, l2, vI z1] (vI z1 :: st) X Q := w_iload_n (by rfl) rfl
set_option maxRecDepth 100000 in
theorem s222_268 {l0 l1 l2 l3 : Value}  : WP d 222 268 [l0, l1, l2, l3] (st) X Q = WP d 222 269 [l0, l1, l2, l3] (vI (1) :: st) X Q := w_iconst (by rfl)
set_option maxRecDepth 100000 in
theorem s222_269 {l0 l1 l2 l3 : Value} {z1 : Int} {z2 : Int} : WP d 222 269 [l0, l1, l2, l3] (vI z2 :: vI z1 :: st) X Q = WP d 222 270 [l0, l1, l2, l3] (vI (z1 + z2) :: st) X Q := w_iadd (by rfl)
set_option maxRecDepth 100000 in
theorem s222_270 {l0 l1 l2 l3 : Value} {j1 : Int} (hj : 0 ≤ j1 ∧ j1 < (L : Int)) (hm : L ≤ 2147483647) : WP d 222 270 [l0, l1, l2, l3] (vI j1 :: .ref 1000 :: st) (N, L, M) Q = WP d 222 271 [l0, l1, l2, l3] (M 1000 j1.toNat :: st) (N, L, M) Q := w_ialdS (by rfl) hj hm
set_option maxRecDepth 100000 in
theorem s222_271 {l1 l2 l3 : Value}  : WP d 222 271 [.ref 1000, l1, l2, l3] (st) X Q = WP d 222 272 [.ref 1000, l1, l2, l3] (.ref 1000 :: st) X Q := w_aload_n (by rfl) rfl (by decide)
set_option maxRecDepth 100000 in
theorem s222_272 {l0 l1 l2 : Value} {z1 : Int} : WP d 222 272 [l0, l1, l2, vI z1] (st) X Q = WP d 222 273 [l0, l1, l2, vI z1] (vI z1 :: st) X Q := w_iload_n (by rfl) rfl
set_option maxRecDepth 100000 in
theorem s222_273 {l0 l1 l2 l3 : Value}  : WP d 222 273 [l0, l1, l2, l3] (st) X Q = WP d 222 274 [l0, l1, l2, l3] (vI (2) :: st) X Q := w_iconst (by rfl)
set_option maxRecDepth 100000 in
theorem s222_274 {l0 l1 l2 l3 : Value} {z1 : Int} {z2 : Int} : WP d 222 274 [l0, l1, l2, l3] (vI z2 :: vI z1 :: st) X Q = WP d 222 275 [l0, l1, l2, l3] (vI (z1 + z2) :: st) X Q := w_iadd (by rfl)
set_option maxRecDepth 100000 in
theorem s222_275 {l0 l1 l2 l3 : Value} {j1 : Int} (hj : 0 ≤ j1 ∧ j1 < (L : Int)) (hm : L ≤ 2147483647) : WP d 222 275 [l0, l1, l2, l3] (vI j1 :: .ref 1000 :: st) (N, L, M) Q = WP d 222 276 [l0, l1, l2, l3] (M 1000 j1.toNat :: st) (N, L, M) Q := w_ialdS (by rfl) hj hm
set_option maxRecDepth 100000 in
theorem c222_276 {l0 l1 l2 l3 : Value} {x0 : Value} {z1 : Int} {z2 : Int} {r : Int} {X' : q_H} (hN : 82 < N) (hS : Sp d 149 [.ref 82, vI z1, vI z2] (N, L, M) (some (vI r)) X') : WP d 222 276 [l0, l1, l2, l3] (vI z2 :: vI z1 :: .ref 82 :: x0 :: []) (N, L, M) Q = WP d 222 279 [l0, l1, l2, l3] (vI r :: x0 :: []) X' Q := w_callv (vs := [vI z1, vI z2]) (by rfl) (by rfl) rfl (Nat.le_of_ble_eq_true rfl) (kd := 9) (by rfl) (by decide) (Or.inl hN) (by rfl) hS
set_option maxRecDepth 100000 in
theorem s222_279 {l0 l1 l2 l3 : Value} {z1 : Int} {z2 : Int} (h1 : -2147483648 ≤ z1 ∧ z1 ≤ 2147483647) (h2 : -2147483648 ≤ z2 ∧ z2 ≤ 2147483647) : WP d 222 279 [l0, l1, l2, l3] (vI z2 :: vI z1 :: st) X Q = if z1 = z2 then WP d 222 1421 [l0, l1, l2, l3] (st) X Q else WP d 222 282 [l0, l1, l2, l3] (st) X Q := w_icmpeq (by rfl) (by decide) h1 h2
set_option maxRecDepth 100000 in
theorem s222_279b {l0 l1 l2 l3 : Value} {P R : Prop} [Decidable P] [Decidable R] : WP d 222 279 [l0, l1, l2, l3] (vI (bI R) :: vI (bI P) :: st) X Q = if (P ↔ R) then WP d 222 1421 [l0, l1, l2, l3] (st) X Q else WP d 222 282 [l0, l1, l2, l3] (st) X Q := w_icmpeqb (by rfl) (by decide)
set_option maxRecDepth 100000 in
theorem s222_282 {l0 l1 l2 l3 : Value}  : WP d 222 282 [l0, l1, l2, l3] (st) X Q = WP d 222 283 [l0, l1, l2, l3] (vI (0) :: st) X Q := w_iconst (by rfl)
set_option maxRecDepth 100000 in
theorem s222_283 {l0 l1 l2 l3 : Value} {z1 : Int} (hz : z1 = 0 ∨ z1 = 1) : WP d 222 283 [l0, l1, l2, l3] (vI z1 :: []) X Q = Q (some (vI z1)) X := w_iretz (by rfl) (by rfl) (nb_bool hz)
set_option maxRecDepth 100000 in
theorem s222_283b {l0 l1 l2 l3 : Value} {P : Prop} [Decidable P] : WP d 222 283 [l0, l1, l2, l3] (vI (bI P) :: []) X Q = Q (some (vI (bI P))) X := w_iretz (by rfl) (by rfl) (nb_bool (bI_01 P))
set_option maxRecDepth 100000 in
theorem s222_284 {l0 l2 l3 : Value}  : WP d 222 284 [l0, .ref 0, l2, l3] (st) X Q = WP d 222 285 [l0, .ref 0, l2, l3] (.ref 0 :: st) X Q := w_aload_n (by rfl) rfl (by decide)
set_option maxRecDepth 100000 in
theorem s222_285 {l1 l2 l3 : Value}  : WP d 222 285 [.ref 1000, l1, l2, l3] (st) X Q = WP d 222 286 [.ref 1000, l1, l2, l3] (.ref 1000 :: st) X Q := w_aload_n (by rfl) rfl (by decide)
set_option maxRecDepth 100000 in
theorem s222_286 {l0 l1 l2 : Value} {z1 : Int} : WP d 222 286 [l0, l1, l2, vI z1] (st) X Q = WP d 222 287 [l0, l1, l2, vI z1] (vI z1 :: st) X Q := w_iload_n (by rfl) rfl
set_option maxRecDepth 100000 in
theorem s222_287 {l0 l1 l2 l3 : Value}  : WP d 222 287 [l0, l1, l2, l3] (st) X Q = WP d 222 288 [l0, l1, l2, l3] (vI (1) :: st) X Q := w_iconst (by rfl)
set_option maxRecDepth 100000 in
theorem s222_288 {l0 l1 l2 l3 : Value} {z1 : Int} {z2 : Int} : WP d 222 288 [l0, l1, l2, l3] (vI z2 :: vI z1 :: st) X Q = WP d 222 289 [l0, l1, l2, l3] (vI (z1 + z2) :: st) X Q := w_iadd (by rfl)
set_option maxRecDepth 100000 in
theorem s222_289 {l0 l1 l2 l3 : Value} {j1 : Int} (hj : 0 ≤ j1 ∧ j1 < (L : Int)) (hm : L ≤ 2147483647) : WP d 222 289 [l0, l1, l2, l3] (vI j1 :: .ref 1000 :: st) (N, L, M) Q = WP d 222 290 [l0, l1, l2, l3] (M 1000 j1.toNat :: st) (N, L, M) Q := w_ialdS (by rfl) hj hm
set_option maxRecDepth 100000 in
theorem s222_290 {l1 l2 l3 : Value}  : WP d 222 290 [.ref 1000, l1, l2, l3] (st) X Q = WP d 222 291 [.ref 1000, l1, l2, l3] (.ref 1000 :: st) X Q := w_aload_n (by rfl) rfl (by decide)
set_option maxRecDepth 100000 in
theorem s222_291 {l0 l1 l2 : Value} {z1 : Int} : WP d 222 291 [l0, l1, l2, vI z1] (st) X Q = WP d 222 292 [l0, l1, l2, vI z1] (vI z1 :: st) X Q := w_iload_n (by rfl) rfl
set_option maxRecDepth 100000 in
theorem s222_292 {l0 l1 l2 l3 : Value}  : WP d 222 292 [l0, l1, l2, l3] (st) X Q = WP d 222 293 [l0, l1, l2, l3] (vI (2) :: st) X Q := w_iconst (by rfl)
set_option maxRecDepth 100000 in
theorem s222_293 {l0 l1 l2 l3 : Value} {z1 : Int} {z2 : Int} : WP d 222 293 [l0, l1, l2, l3] (vI z2 :: vI z1 :: st) X Q = WP d 222 294 [l0, l1, l2, l3] (vI (z1 + z2) :: st) X Q := w_iadd (by rfl)
set_option maxRecDepth 100000 in
theorem s222_294 {l0 l1 l2 l3 : Value} {j1 : Int} (hj : 0 ≤ j1 ∧ j1 < (L : Int)) (hm : L ≤ 2147483647) : WP d 222 294 [l0, l1, l2, l3] (vI j1 :: .ref 1000 :: st) (N, L, M) Q = WP d 222 295 [l0, l1, l2, l3] (M 1000 j1.toNat :: st) (N, L, M) Q := w_ialdS (by rfl) hj hm
set_option maxRecDepth 100000 in
theorem c222_295 {l0 l1 l2 l3 : Value} {z1 : Int} {z2 : Int} {r : Int} {X' : q_H} (hN : 0 < N) (hS : Sp d 56 [.ref 0, vI z1, vI z2] (N, L, M) (some (vI r)) X') : WP d 222 295 [l0, l1, l2, l3] (vI z2 :: vI z1 :: .ref 0 :: []) (N, L, M) Q = WP d 222 298 [l0, l1, l2, l3] (vI r :: []) X' Q := w_callv (vs := [vI z1, vI z2]) (by rfl) (by rfl) rfl (Nat.le_of_ble_eq_true rfl) (kd := 8) (by rfl) (by decide) (Or.inl hN) (by rfl) hS
set_option maxRecDepth 100000 in
theorem s222_298 {l0 l1 l3 : Value}  : WP d 222 298 [l0, l1, .ref 82, l3] (st) X Q = WP d 222 299 [l0, l1, .ref 82, l3] (.ref 82 :: st) X Q := w_aload_n (by rfl) rfl (by decide)
set_option maxRecDepth 100000 in
theorem s222_299 {l1 l2 l3 : Value}  : WP d 222 299 [.ref 1000, l1, l2, l3] (st) X Q = WP d 222 300 [.ref 1000, l1, l2, l3] (.ref 1000 :: st) X Q := w_aload_n (by rfl) rfl (by decide)
set_option maxRecDepth 100000 in
theorem s222_300 {l0 l1 l2 : Value} {z1 : Int} : WP d 222 300 [l0, l1, l2, vI z1] (st) X Q = WP d 222 301 [l0, l1, l2, vI z1] (vI z1 :: st) X Q := w_iload_n (by rfl) rfl
set_option maxRecDepth 100000 in
theorem s222_301 {l0 l1 l2 l3 : Value}  : WP d 222 301 [l0, l1, l2, l3] (st) X Q = WP d 222 302 [l0, l1, l2, l3] (vI (1) :: st) X Q := w_iconst (by rfl)
set_option maxRecDepth 100000 in
theorem s222_302 {l0 l1 l2 l3 : Value} {z1 : Int} {z2 : Int} : WP d 222 302 [l0, l1, l2, l3] (vI z2 :: vI z1 :: st) X Q = WP d 222 303 [l0, l1, l2, l3] (vI (z1 + z2) :: st) X Q := w_iadd (by rfl)
set_option maxRecDepth 100000 in
theorem s222_303 {l0 l1 l2 l3 : Value} {j1 : Int} (hj : 0 ≤ j1 ∧ j1 < (L : Int)) (hm : L ≤ 2147483647) : WP d 222 303 [l0, l1, l2, l3] (vI j1 :: .ref 1000 :: st) (N, L, M) Q = WP d 222 304 [l0, l1, l2, l3] (M 1000 j1.toNat :: st) (N, L, M) Q := w_ialdS (by rfl) hj hm
set_option maxRecDepth 100000 in
theorem s222_304 {l1 l2 l3 : Value}  : WP d 222 304 [.ref 1000, l1, l2, l3] (st) X Q = WP d 222 305 [.ref 1000, l1, l2, l3] (.ref 1000 :: st) X Q := w_aload_n (by rfl) rfl (by decide)
set_option maxRecDepth 100000 in
theorem s222_305 {l0 l1 l2 : Value} {z1 : Int} : WP d 222 305 [l0, l1, l2, vI z1] (st) X Q = WP d 222 306 [l0, l1, l2, vI z1] (vI z1 :: st) X Q := w_iload_n (by rfl) rfl
set_option maxRecDepth 100000 in
theorem s222_306 {l0 l1 l2 l3 : Value}  : WP d 222 306 [l0, l1, l2, l3] (st) X Q = WP d 222 307 [l0, l1, l2, l3] (vI (2) :: st) X Q := w_iconst (by rfl)
set_option maxRecDepth 100000 in
theorem s222_307 {l0 l1 l2 l3 : Value} {z1 : Int} {z2 : Int} : WP d 222 307 [l0, l1, l2, l3] (vI z2 :: vI z1 :: st) X Q = WP d 222 308 [l0, l1, l2, l3] (vI (z1 + z2) :: st) X Q := w_iadd (by rfl)
set_option maxRecDepth 100000 in
theorem s222_308 {l0 l1 l2 l3 : Value} {j1 : Int} (hj : 0 ≤ j1 ∧ j1 < (L : Int)) (hm : L ≤ 2147483647) : WP d 222 308 [l0, l1, l2, l3] (vI j1 :: .ref 1000 :: st) (N, L, M) Q = WP d 222 309 [l0, l1, l2, l3] (M 1000 j1.toNat :: st) (N, L, M) Q := w_ialdS (by rfl) hj hm
set_option maxRecDepth 100000 in
theorem c222_309 {l0 l1 l2 l3 : Value} {x0 : Value} {z1 : Int} {z2 : Int} {r : Int} {X' : q_H} (hN : 82 < N) (hS : Sp d 118 [.ref 82, vI z1, vI z2] (N, L, M) (some (vI r)) X') : WP d 222 309 [l0, l1, l2, l3] (vI z2 :: vI z1 :: .ref 82 :: x0 :: []) (N, L, M) Q = WP d 222 312 [l0, l1, l2, l3] (vI r :: x0 :: []) X' Q := w_callv (vs := [vI z1, vI z2]) (by rfl) (by rfl) rfl (Nat.le_of_ble_eq_true rfl) (kd := 9) (by rfl) (by decide) (Or.inl hN) (by rfl) hS
set_option maxRecDepth 100000 in
theorem s222_312 {l0 l1 l2 l3 : Value} {z1 : Int} {z2 : Int} (h1 : -2147483648 ≤ z1 ∧ z1 ≤ 2147483647) (h2 : -2147483648 ≤ z2 ∧ z2 ≤ 2147483647) : WP d 222 312 [l0, l1, l2, l3] (vI z2 :: vI z1 :: st) X Q = if z1 = z2 then WP d 222 1421 [l0, l1, l2, l3] (st) X Q else WP d 222 315 [l0, l1, l2, l3] (st) X Q := w_icmpeq (by rfl) (by decide) h1 h2
set_option maxRecDepth 100000 in
theorem s222_312b {l0 l1 l2 l3 : Value} {P R : Prop} [Decidable P] [Decidable R] : WP d 222 312 [l0, l1, l2, l3] (vI (bI R) :: vI (bI P) :: st) X Q = if (P ↔ R) then WP d 222 1421 [l0, l1, l2, l3] (st) X Q else WP d 222 315 [l0, l1, l2, l3] (st) X Q := w_icmpeqb (by rfl) (by decide)
set_option maxRecDepth 100000 in
theorem s222_315 {l0 l1 l2 l3 : Value}  : WP d 222 315 [l0, l1, l2, l3] (st) X Q = WP d 222 316 [l0, l1, l2, l3] (vI (0) :: st) X Q := w_iconst (by rfl)
set_option maxRecDepth 100000 in
theorem s222_316 {l0 l1 l2 l3 : Value} {z1 : Int} (hz : z1 = 0 ∨ z1 = 1) : WP d 222 316 [l0, l1, l2, l3] (vI z1 :: []) X Q = Q (some (vI z1)) X := w_iretz (by rfl) (by rfl) (nb_bool hz)
set_option maxRecDepth 100000 in
theorem s222_316b {l0 l1 l2 l3 : Value} {P : Prop} [Decidable P] : WP d 222 316 [l0, l1, l2, l3] (vI (bI P) :: []) X Q = Q (some (vI (bI P))) X := w_iretz (by rfl) (by rfl) (nb_bool (bI_01 P))
set_option maxRecDepth 100000 in
theorem s222_317 {l0 l2 l3 : Value}  : WP d 222 317 [l0, .ref 0, l2, l3] (st) X Q = WP d 222 318 [l0, .ref 0, l2, l3] (.ref 0 :: st) X Q := w_aload_n (by rfl) rfl (by decide)
set_option maxRecDepth 100000 in
theorem s222_318 {l1 l2 l3 : Value}  : WP d 222 318 [.ref 1000, l1, l2, l3] (st) X Q = WP d 222 319 [.ref 1000, l1, l2, l3] (.ref 1000 :: st) X Q := w_aload_n (by rfl) rfl (by decide)
set_option maxRecDepth 100000 in
theorem s222_319 {l0 l1 l2 : Value} {z1 : Int} : WP d 222 319 [l0, l1, l2, vI z1] (st) X Q = WP d 222 320 [l0, l1, l2, vI z1] (vI z1 :: st) X Q := w_iload_n (by rfl) rfl
set_option maxRecDepth 100000 in
theorem s222_320 {l0 l1 l2 l3 : Value}  : WP d 222 320 [l0, l1, l2, l3] (st) X Q = WP d 222 321 [l0, l1, l2, l3] (vI (1) :: st) X Q := w_iconst (by rfl)
set_option maxRecDepth 100000 in
theorem s222_321 {l0 l1 l2 l3 : Value} {z1 : Int} {z2 : Int} : WP d 222 321 [l0, l1, l2, l3] (vI z2 :: vI z1 :: st) X Q = WP d 222 322 [l0, l1, l2, l3] (vI (z1 + z2) :: st) X Q := w_iadd (by rfl)
set_option maxRecDepth 100000 in
theorem s222_322 {l0 l1 l2 l3 : Value} {j1 : Int} (hj : 0 ≤ j1 ∧ j1 < (L : Int)) (hm : L ≤ 2147483647) : WP d 222 322 [l0, l1, l2, l3] (vI j1 :: .ref 1000 :: st) (N, L, M) Q = WP d 222 323 [l0, l1, l2, l3] (M 1000 j1.toNat :: st) (N, L, M) Q := w_ialdS (by rfl) hj hm
set_option maxRecDepth 100000 in
theorem s222_323 {l1 l2 l3 : Value}  : WP d 222 323 [.ref 1000, l1, l2, l3] (st) X Q = WP d 222 324 [.ref 1000, l1, l2, l3] (.ref 1000 :: st) X Q := w_aload_n (by rfl) rfl (by decide)
set_option maxRecDepth 100000 in
theorem s222_324 {l0 l1 l2 : Value} {z1 : Int} : WP d 222 324 [l0, l1, l2, vI z1] (st) X Q = WP d 222 325 [l0, l1, l2, vI z1] (vI z1 :: st) X Q := w_iload_n (by rfl) rfl
set_option maxRecDepth 100000 in
theorem s222_325 {l0 l1 l2 l3 : Value}  : WP d 222 325 [l0, l1, l2, l3] (st) X Q = WP d 222 326 [l0, l1, l2, l3] (vI (2) :: st) X Q := w_iconst (by rfl)
set_option maxRecDepth 100000 in
theorem s222_326 {l0 l1 l2 l3 : Value} {z1 : Int} {z2 : Int} : WP d 222 326 [l0, l1, l2, l3] (vI z2 :: vI z1 :: st) X Q = WP d 222 327 [l0, l1, l2, l3] (vI (z1 + z2) :: st) X Q := w_iadd (by rfl)
set_option maxRecDepth 100000 in
theorem s222_327 {l0 l1 l2 l3 : Value} {j1 : Int} (hj : 0 ≤ j1 ∧ j1 < (L : Int)) (hm : L ≤ 2147483647) : WP d 222 327 [l0, l1, l2, l3] (vI j1 :: .ref 1000 :: st) (N, L, M) Q = WP d 222 328 [l0, l1, l2, l3] (M 1000 j1.toNat :: st) (N, L, M) Q := w_ialdS (by rfl) hj hm
set_option maxRecDepth 100000 in
theorem c222_328 {l0 l1 l2 l3 : Value} {z1 : Int} {z2 : Int} {r : Int} {X' : q_H} (hN : 0 < N) (hS : Sp d 57 [.ref 0, vI z1, vI z2] (N, L, M) (some (vI r)) X') : WP d 222 328 [l0, l1, l2, l3] (vI z2 :: vI z1 :: .ref 0 :: []) (N, L, M) Q = WP d 222 331 [l0, l1, l2, l3] (vI r :: []) X' Q := w_callv (vs := [vI z1, vI z2]) (by rfl) (by rfl) rfl (Nat.le_of_ble_eq_true rfl) (kd := 8) (by rfl) (by decide) (Or.inl hN) (by rfl) hS
set_option maxRecDepth 100000 in
theorem s222_331 {l0 l1 l3 : Value}  : WP d 222 331 [l0, l1, .ref 82, l3] (st) X Q = WP d 222 332 [l0, l1, .ref 82, l3] (.ref 82 :: st) X Q := w_aload_n (by rfl) rfl (by decide)
set_option maxRecDepth 100000 in
theorem s222_332 {l1 l2 l3 : Value}  : WP d 222 332 [.ref 1000, l1, l2, l3] (st) X Q = WP d 222 333 [.ref 1000, l1, l2, l3] (.ref 1000 :: st) X Q := w_aload_n (by rfl) rfl (by decide)
set_option maxRecDepth 100000 in
theorem s222_333 {l0 l1 l2 : Value} {z1 : Int} : WP d 222 333 [l0, l1, l2, vI z1] (st) X Q = WP d 222 334 [l0, l1, l2, vI z1] (vI z1 :: st) X Q := w_iload_n (by rfl) rfl
set_option maxRecDepth 100000 in
theorem s222_334 {l0 l1 l2 l3 : Value}  : WP d 222 334 [l0, l1, l2, l3] (st) X Q = WP d 222 335 [l0, l1, l2, l3] (vI (1) :: st) X Q := w_iconst (by rfl)
set_option maxRecDepth 100000 in
theorem s222_335 {l0 l1 l2 l3 : Value} {z1 : Int} {z2 : Int} : WP d 222 335 [l0, l1, l2, l3] (vI z2 :: vI z1 :: st) X Q = WP d 222 336 [l0, l1, l2, l3] (vI (z1 + z2) :: st) X Q := w_iadd (by rfl)
set_option maxRecDepth 100000 in
theorem s222_336 {l0 l1 l2 l3 : Value} {j1 : Int} (hj : 0 ≤ j1 ∧ j1 < (L : Int)) (hm : L ≤ 2147483647) : WP d 222 336 [l0, l1, l2, l3] (vI j1 :: .ref 1000 :: st) (N, L, M) Q = WP d 222 337 [l0, l1, l2, l3] (M 1000 j1.toNat :: st) (N, L, M) Q := w_ialdS (by rfl) hj hm
set_option maxRecDepth 100000 in
theorem s222_337 {l1 l2 l3 : Value}  : WP d 222 337 [.ref 1000, l1, l2, l3] (st) X Q = WP d 222 338 [.ref 1000, l1, l2, l3] (.ref 1000 :: st) X Q := w_aload_n (by rfl) rfl (by decide)
set_option maxRecDepth 100000 in
theorem s222_338 {l0 l1 l2 : Value} {z1 : Int} : WP d 222 338 [l0, l1, l2, vI z1] (st) X Q = WP d 222 339 [l0, l1, l2, vI z1] (vI z1 :: st) X Q := w_iload_n (by rfl) rfl
set_option maxRecDepth 100000 in
theorem s222_339 {l0 l1 l2 l3 : Value}  : WP d 222 339 [l0, l1, l2, l3] (st) X Q = WP d 222 340 [l0, l1, l2, l3] (vI (2) :: st) X Q := w_iconst (by rfl)
set_option maxRecDepth 100000 in
theorem s222_340 {l0 l1 l2 l3 : Value} {z1 : Int} {z2 : Int} : WP d 222 340 [l0, l1, l2, l3] (vI z2 :: vI z1 :: st) X Q = WP d 222 341 [l0, l1, l2, l3] (vI (z1 + z2) :: st) X Q := w_iadd (by rfl)
set_option maxRecDepth 100000 in
theorem s222_341 {l0 l1 l2 l3 : Value} {j1 : Int} (hj : 0 ≤ j1 ∧ j1 < (L : Int)) (hm : L ≤ 2147483647) : WP d 222 341 [l0, l1, l2, l3] (vI j1 :: .ref 1000 :: st) (N, L, M) Q = WP d 222 342 [l0, l1, l2, l3] (M 1000 j1.toNat :: st) (N, L, M) Q := w_ialdS (by rfl) hj hm
set_option maxRecDepth 100000 in
theorem c222_342 {l0 l1 l2 l3 : Value} {x0 : Value} {z1 : Int} {z2 : Int} {r : Int} {X' : q_H} (hN : 82 < N) (hS : Sp d 119 [.ref 82, vI z1, vI z2] (N, L, M) (some (vI r)) X') : WP d 222 342 [l0, l1, l2, l3] (vI z2 :: vI z1 :: .ref 82 :: x0 :: []) (N, L, M) Q = WP d 222 345 [l0, l1, l2, l3] (vI r :: x0 :: []) X' Q := w_callv (vs := [vI z1, vI z2]) (by rfl) (by rfl) rfl (Nat.le_of_ble_eq_true rfl) (kd := 9) (by rfl) (by decide) (Or.inl hN) (by rfl) hS
set_option maxRecDepth 100000 in
theorem s222_345 {l0 l1 l2 l3 : Value} {z1 : Int} {z2 : Int} (h1 : -2147483648 ≤ z1 ∧ z1 ≤ 2147483647) (h2 : -2147483648 ≤ z2 ∧ z2 ≤ 2147483647) : WP d 222 345 [l0, l1, l2, l3] (vI z2 :: vI z1 :: st) X Q = if z1 = z2 then WP d 222 1421 [l0, l1, l2, l3] (st) X Q else WP d 222 348 [l0, l1, l2, l3] (st) X Q := w_icmpeq (by rfl) (by decide) h1 h2
set_option maxRecDepth 100000 in
theorem s222_345b {l0 l1 l2 l3 : Value} {P R : Prop} [Decidable P] [Decidable R] : WP d 222 345 [l0, l1, l2, l3] (vI (bI R) :: vI (bI P) :: st) X Q = if (P ↔ R) then WP d 222 1421 [l0, l1, l2, l3] (st) X Q else WP d 222 348 [l0, l1, l2, l3] (st) X Q := w_icmpeqb (by rfl) (by decide)
set_option maxRecDepth 100000 in
theorem s222_348 {l0 l1 l2 l3 : Value}  : WP d 222 348 [l0, l1, l2, l3] (st) X Q = WP d 222 349 [l0, l1, l2, l3] (vI (0) :: st) X Q := w_iconst (by rfl)
set_option maxRecDepth 100000 in
theorem s222_349 {l0 l1 l2 l3 : Value} {z1 : Int} (hz : z1 = 0 ∨ z1 = 1) : WP d 222 349 [l0, l1, l2, l3] (vI z1 :: []) X Q = Q (some (vI z1)) X := w_iretz (by rfl) (by rfl) (nb_bool hz)
set_option maxRecDepth 100000 in
theorem s222_349b {l0 l1 l2 l3 : Value} {P : Prop} [Decidable P] : WP d 222 349 [l0, l1, l2, l3] (vI (bI P) :: []) X Q = Q (some (vI (bI P))) X := w_iretz (by rfl) (by rfl) (nb_bool (bI_01 P))
set_option maxRecDepth 100000 in
theorem s222_350 {l0 l2 l3 : Value}  : WP d 222 350 [l0, .ref 0, l2, l3] (st) X Q = WP d 222 351 [l0, .ref 0, l2, l3] (.ref 0 :: st) X Q := w_aload_n (by rfl) rfl (by decide)
set_option maxRecDepth 100000 in
theorem s222_351 {l1 l2 l3 : Value}  : WP d 222 351 [.ref 1000, l1, l2, l3] (st) X Q = WP d 222 352 [.ref 1000, l1, l2, l3] (.ref 1000 :: st) X Q := w_aload_n (by rfl) rfl (by decide)
set_option maxRecDepth 100000 in
theorem s222_352 {l0 l1 l2 : Value} {z1 : Int} : WP d 222 352 [l0, l1, l2, vI z1] (st) X Q = WP d 222 353 [l0, l1, l2, vI z1] (vI z1 :: st) X Q := w_iload_n (by rfl) rfl
set_option maxRecDepth 100000 in
theorem s222_353 {l0 l1 l2 l3 : Value}  : WP d 222 353 [l0, l1, l2, l3] (st) X Q = WP d 222 354 [l0, l1, l2, l3] (vI (1) :: st) X Q := w_iconst (by rfl)
set_option maxRecDepth 100000 in
theorem s222_354 {l0 l1 l2 l3 : Value} {z1 : Int} {z2 : Int} : WP d 222 354 [l0, l1, l2, l3] (vI z2 :: vI z1 :: st) X Q = WP d 222 355 [l0, l1, l2, l3] (vI (z1 + z2) :: st) X Q := w_iadd (by rfl)
set_option maxRecDepth 100000 in
theorem s222_355 {l0 l1 l2 l3 : Value} {j1 : Int} (hj : 0 ≤ j1 ∧ j1 < (L : Int)) (hm : L ≤ 2147483647) : WP d 222 355 [l0, l1, l2, l3] (vI j1 :: .ref 1000 :: st) (N, L, M) Q = WP d 222 356 [l0, l1, l2, l3] (M 1000 j1.toNat :: st) (N, L, M) Q := w_ialdS (by rfl) hj hm
set_option maxRecDepth 100000 in
theorem s222_356 {l1 l2 l3 : Value}  : WP d 222 356 [.ref 1000, l1, l2, l3] (st) X Q = WP d 222 357 [.ref 1000, l1, l2, l3] (.ref 1000 :: st) X Q := w_aload_n (by rfl) rfl (by decide)
set_option maxRecDepth 100000 in
theorem s222_357 {l0 l1 l2 : Value} {z1 : Int} : WP d 222 357 [l0, l1, l2, vI z1] (st) X Q = WP d 222 358 [l0, l1, l2, vI z1] (vI z1 :: st) X Q := w_iload_n (by rfl) rfl
set_option maxRecDepth 100000 in
theorem s222_358 {l0 l1 l2 l3 : Value}  : WP d 222 358 [l0, l1, l2, l3] (st) X Q = WP d 222 359 [l0, l1, l2, l3] (vI (2) :: st) X Q := w_iconst (by rfl)
set_option maxRecDepth 100000 in
theorem s222_359 {l0 l1 l2 l3 : Value} {z1 : Int} {z2 : Int} : WP d 222 359 [l0, l1, l2, l3] (vI z2 :: vI z1 :: st) X Q = WP d 222 360 [l0, l1, l2, l3] (vI (z1 + z2) :: st) X Q := w_iadd (by rfl)
set_option maxRecDepth 100000 in
theorem s222_360 {l0 l1 l2 l3 : Value} {j1 : Int} (hj : 0 ≤ j1 ∧ j1 < (L : Int)) (hm : L ≤ 2147483647) : WP d 222 360 [l0, l1, l2, l3] (vI j1 :: .ref 1000 :: st) (N, L, M) Q = WP d 222 361 [l0, l1, l2, l3] (M 1000 j1.toNat :: st) (N, L, M) Q := w_ialdS (by rfl) hj hm
set_option maxRecDepth 100000 in
theorem s222_361 {l1 l2 l3 : Value}  : WP d 222 361 [.ref 1000, l1, l2, l3] (st) X Q = WP d 222 362 [.ref 1000, l1, l2, l3] (.ref 1000 :: st) X Q := w_aload_n (by rfl) rfl (by decide)
set_option maxRecDepth 100000 in
theorem s222_362 {l0 l1 l2 : Value} {z1 : Int} : WP d 222 362 [l0, l1, l2, vI z1] (st) X Q = WP d 222 363 [l0, l1, l2, vI z1] (vI z1 :: st) X Q := w_iload_n (by rfl) rfl
set_option maxRecDepth 100000 in
theorem s222_363 {l0 l1 l2 l3 : Value}  : WP d 222 363 [l0, l1, l2, l3] (st) X Q = WP d 222 364 [l0, l1, l2, l3] (vI (3) :: st) X Q := w_iconst (by rfl)
set_option maxRecDepth 100000 in
theorem s222_364 {l0 l1 l2 l3 : Value} {z1 : Int} {z2 : Int} : WP d 222 364 [l0, l1, l2, l3] (vI z2 :: vI z1 :: st) X Q = WP d 222 365 [l0, l1, l2, l3] (vI (z1 + z2) :: st) X Q := w_iadd (by rfl)
set_option maxRecDepth 100000 in
theorem s222_365 {l0 l1 l2 l3 : Value} {j1 : Int} (hj : 0 ≤ j1 ∧ j1 < (L : Int)) (hm : L ≤ 2147483647) : WP d 222 365 [l0, l1, l2, l3] (vI j1 :: .ref 1000 :: st) (N, L, M) Q = WP d 222 366 [l0, l1, l2, l3] (M 1000 j1.toNat :: st) (N, L, M) Q := w_ialdS (by rfl) hj hm
set_option maxRecDepth 100000 in
theorem c222_366 {l0 l1 l2 l3 : Value} {z1 : Int} {z2 : Int} {z3 : Int} {r : Int} {X' : q_H} (hN : 0 < N) (hS : Sp d 58 [.ref 0, vI z1, vI z2, vI z3] (N, L, M) (some (vI r)) X') : WP d 222 366 [l0, l1, l2, l3] (vI z3 :: vI z2 :: vI z1 :: .ref 0 :: []) (N, L, M) Q = WP d 222 369 [l0, l1, l2, l3] (vI r :: []) X' Q := w_callv (vs := [vI z1, vI z2, vI z3]) (by rfl) (by rfl) rfl (Nat.le_of_ble_eq_true rfl) (kd := 8) (by rfl) (by decide) (Or.inl hN) (by rfl) hS
set_option maxRecDepth 100000 in
theorem s222_369 {l0 l1 l3 : Value}  : WP d 222 369 [l0, l1, .ref 82, l3] (st) X Q = WP d 222 370 [l0, l1, .ref 82, l3] (.ref 82 :: st) X Q := w_aload_n (by rfl) rfl (by decide)
set_option maxRecDepth 100000 in
theorem s222_370 {l1 l2 l3 : Value}  : WP d 222 370 [.ref 1000, l1, l2, l3] (st) X Q = WP d 222 371 [.ref 1000, l1, l2, l3] (.ref 1000 :: st) X Q := w_aload_n (by rfl) rfl (by decide)
set_option maxRecDepth 100000 in
theorem s222_371 {l0 l1 l2 : Value} {z1 : Int} : WP d 222 371 [l0, l1, l2, vI z1] (st) X Q = WP d 222 372 [l0, l1, l2, vI z1] (vI z1 :: st) X Q := w_iload_n (by rfl) rfl
set_option maxRecDepth 100000 in
theorem s222_372 {l0 l1 l2 l3 : Value}  : WP d 222 372 [l0, l1, l2, l3] (st) X Q = WP d 222 373 [l0, l1, l2, l3] (vI (1) :: st) X Q := w_iconst (by rfl)
set_option maxRecDepth 100000 in
theorem s222_373 {l0 l1 l2 l3 : Value} {z1 : Int} {z2 : Int} : WP d 222 373 [l0, l1, l2, l3] (vI z2 :: vI z1 :: st) X Q = WP d 222 374 [l0, l1, l2, l3] (vI (z1 + z2) :: st) X Q := w_iadd (by rfl)
set_option maxRecDepth 100000 in
theorem s222_374 {l0 l1 l2 l3 : Value} {j1 : Int} (hj : 0 ≤ j1 ∧ j1 < (L : Int)) (hm : L ≤ 2147483647) : WP d 222 374 [l0, l1, l2, l3] (vI j1 :: .ref 1000 :: st) (N, L, M) Q = WP d 222 375 [l0, l1, l2, l3] (M 1000 j1.toNat :: st) (N, L, M) Q := w_ialdS (by rfl) hj hm
set_option maxRecDepth 100000 in
theorem s222_375 {l1 l2 l3 : Value}  : WP d 222 375 [.ref 1000, l1, l2, l3] (st) X Q = WP d 222 376 [.ref 1000, l1, l2, l3] (.ref 1000 :: st) X Q := w_aload_n (by rfl) rfl (by decide)
set_option maxRecDepth 100000 in
theorem s222_376 {l0 l1 l2 : Value} {z1 : Int} : WP d 222 376 [l0, l1, l2, vI z1] (st) X Q = WP d 222 377 [l0, l1, l2, vI z1] (vI z1 :: st) X Q := w_iload_n (by rfl) rfl
set_option maxRecDepth 100000 in
theorem s222_377 {l0 l1 l2 l3 : Value}  : WP d 222 377 [l0, l1, l2, l3] (st) X Q = WP d 222 378 [l0, l1, l2, l3] (vI (2) :: st) X Q := w_iconst (by rfl)
set_option maxRecDepth 100000 in
theorem s222_378 {l0 l1 l2 l3 : Value} {z1 : Int} {z2 : Int} : WP d 222 378 [l0, l1, l2, l3] (vI z2 :: vI z1 :: st) X Q = WP d 222 379 [l0, l1, l2, l3] (vI (z1 + z2) :: st) X Q := w_iadd (by rfl)
set_option maxRecDepth 100000 in
theorem s222_379 {l0 l1 l2 l3 : Value} {j1 : Int} (hj : 0 ≤ j1 ∧ j1 < (L : Int)) (hm : L ≤ 2147483647) : WP d 222 379 [l0, l1, l2, l3] (vI j1 :: .ref 1000 :: st) (N, L, M) Q = WP d 222 380 [l0, l1, l2, l3] (M 1000 j1.toNat :: st) (N, L, M) Q := w_ialdS (by rfl) hj hm
set_option maxRecDepth 100000 in
theorem s222_380 {l1 l2 l3 : Value}  : WP d 222 380 [.ref 1000, l1, l2, l3] (st) X Q = WP d 222 381 [.ref 1000, l1, l2, l3] (.ref 1000 :: st) X Q := w_aload_n (by rfl) rfl (by decide)
set_option maxRecDepth 100000 in
theorem s222_381 {l0 l1 l2 : Value} {z1 : Int} : WP d 222 381 [l0, l1, l2, vI z1] (st) X Q = WP d 222 382 [l0, l1, l2, vI z1] (vI z1 :: st) X Q := w_iload_n (by rfl) rfl
set_option maxRecDepth 100000 in
theorem s222_382 {l0 l1 l2 l3 : Value}  : WP d 222 382 [l0, l1, l2, l3] (st) X Q = WP d 222 383 [l0, l1, l2, l3] (vI (3) :: st) X Q := w_iconst (by rfl)
set_option maxRecDepth 100000 in
theorem s222_383 {l0 l1 l2 l3 : Value} {z1 : Int} {z2 : Int} : WP d 222 383 [l0, l1, l2, l3] (vI z2 :: vI z1 :: st) X Q = WP d 222 384 [l0, l1, l2, l3] (vI (z1 + z2) :: st) X Q := w_iadd (by rfl)
set_option maxRecDepth 100000 in
theorem s222_384 {l0 l1 l2 l3 : Value} {j1 : Int} (hj : 0 ≤ j1 ∧ j1 < (L : Int)) (hm : L ≤ 2147483647) : WP d 222 384 [l0, l1, l2, l3] (vI j1 :: .ref 1000 :: st) (N, L, M) Q = WP d 222 385 [l0, l1, l2, l3] (M 1000 j1.toNat :: st) (N, L, M) Q := w_ialdS (by rfl) hj hm
set_option maxRecDepth 100000 in
theorem c222_385 {l0 l1 l2 l3 : Value} {x0 : Value} {z1 : Int} {z2 : Int} {z3 : Int} {r : Int} {X' : q_H} (hN : 82 < N) (hS : Sp d 120 [.ref 82, vI z1, vI z2, vI z3] (N, L, M) (some (vI r)) X') : WP d 222 385 [l0, l1, l2, l3] (vI z3 :: vI z2 :: vI z1 :: .ref 82 :: x0 :: []) (N, L, M) Q = WP d 222 388 [l0, l1, l2, l3] (vI r :: x0 :: []) X' Q := w_callv (vs := [vI z1, vI z2, vI z3]) (by rfl) (by rfl) rfl (Nat.le_of_ble_eq_true rfl) (kd := 9) (by rfl) (by decide) (Or.inl hN) (by rfl) hS
set_option maxRecDepth 100000 in
theorem s222_388 {l0 l1 l2 l3 : Value} {z1 : Int} {z2 : Int} (h1 : -2147483648 ≤ z1 ∧ z1 ≤ 2147483647) (h2 : -2147483648 ≤ z2 ∧ z2 ≤ 2147483647) : WP d 222 388 [l0, l1, l2, l3] (vI z2 :: vI z1 :: st) X Q = if z1 = z2 then WP d 222 1421 [l0, l1, l2, l3] (st) X Q else WP d 222 391 [l0, l1, l2, l3] (st) X Q := w_icmpeq (by rfl) (by decide) h1 h2
set_option maxRecDepth 100000 in
theorem s222_388b {l0 l1 l2 l3 : Value} {P R : Prop} [Decidable P] [Decidable R] : WP d 222 388 [l0, l1, l2, l3] (vI (bI R) :: vI (bI P) :: st) X Q = if (P ↔ R) then WP d 222 1421 [l0, l1, l2, l3] (st) X Q else WP d 222 391 [l0, l1, l2, l3] (st) X Q := w_icmpeqb (by rfl) (by decide)
set_option maxRecDepth 100000 in
theorem s222_391 {l0 l1 l2 l3 : Value}  : WP d 222 391 [l0, l1, l2, l3] (st) X Q = WP d 222 392 [l0, l1, l2, l3] (vI (0) :: st) X Q := w_iconst (by rfl)
set_option maxRecDepth 100000 in
theorem s222_392 {l0 l1 l2 l3 : Value} {z1 : Int} (hz : z1 = 0 ∨ z1 = 1) : WP d 222 392 [l0, l1, l2, l3] (vI z1 :: []) X Q = Q (some (vI z1)) X := w_iretz (by rfl) (by rfl) (nb_bool hz)
set_option maxRecDepth 100000 in
theorem s222_392b {l0 l1 l2 l3 : Value} {P : Prop} [Decidable P] : WP d 222 392 [l0, l1, l2, l3] (vI (bI P) :: []) X Q = Q (some (vI (bI P))) X := w_iretz (by rfl) (by rfl) (nb_bool (bI_01 P))
set_option maxRecDepth 100000 in
theorem s222_393 {l0 l2 l3 : Value}  : WP d 222 393 [l0, .ref 0, l2, l3] (st) X Q = WP d 222 394 [l0, .ref 0, l2, l3] (.ref 0 :: st) X Q := w_aload_n (by rfl) rfl (by decide)
set_option maxRecDepth 100000 in
theorem s222_394 {l1 l2 l3 : Value}  : WP d 222 394 [.ref 1000, l1, l2, l3] (st) X Q = WP d 222 395 [.ref 1000, l1, l2, l3] (.ref 1000 :: st) X Q := w_aload_n (by rfl) rfl (by decide)
set_option maxRecDepth 100000 in
theorem s222_395 {l0 l1 l2 : Value} {z1 : Int} : WP d 222 395 [l0, l1, l2, vI z1] (st) X Q = WP d 222 396 [l0, l1, l2, vI z1] (vI z1 :: st) X Q := w_iload_n (by rfl) rfl
set_option maxRecDepth 100000 in
theorem s222_396 {l0 l1 l2 l3 : Value}  : WP d 222 396 [l0, l1, l2, l3] (st) X Q = WP d 222 397 [l0, l1, l2, l3] (vI (1) :: st) X Q := w_iconst (by rfl)
set_option maxRecDepth 100000 in
theorem s222_397 {l0 l1 l2 l3 : Value} {z1 : Int} {z2 : Int} : WP d 222 397 [l0, l1, l2, l3] (vI z2 :: vI z1 :: st) X Q = WP d 222 398 [l0, l1, l2, l3] (vI (z1 + z2) :: st) X Q := w_iadd (by rfl)
set_option maxRecDepth 100000 in
theorem s222_398 {l0 l1 l2 l3 : Value} {j1 : Int} (hj : 0 ≤ j1 ∧ j1 < (L : Int)) (hm : L ≤ 2147483647) : WP d 222 398 [l0, l1, l2, l3] (vI j1 :: .ref 1000 :: st) (N, L, M) Q = WP d 222 399 [l0, l1, l2, l3] (M 1000 j1.toNat :: st) (N, L, M) Q := w_ialdS (by rfl) hj hm
set_option maxRecDepth 100000 in
theorem c222_399 {l0 l1 l2 l3 : Value} {z1 : Int} {r : Int} {X' : q_H} (hN : 0 < N) (hS : Sp d 59 [.ref 0, vI z1] (N, L, M) (some (vI r)) X') : WP d 222 399 [l0, l1, l2, l3] (vI z1 :: .ref 0 :: []) (N, L, M) Q = WP d 222 402 [l0, l1, l2, l3] (vI r :: []) X' Q := w_callv (vs := [vI z1]) (by rfl) (by rfl) rfl (Nat.le_of_ble_eq_true rfl) (kd := 8) (by rfl) (by decide) (Or.inl hN) (by rfl) hS
set_option maxRecDepth 100000 in
theorem s222_402 {l0 l1 l3 : Value}  : WP d 222 402 [l0, l1, .ref 82, l3] (st) X Q = WP d 222 403 [l0, l1, .ref 82, l3] (.ref 82 :: st) X Q := w_aload_n (by rfl) rfl (by decide)
set_option maxRecDepth 100000 in
theorem s222_403 {l1 l2 l3 : Value}  : WP d 222 403 [.ref 1000, l1, l2, l3] (st) X Q = WP d 222 404 [.ref 1000, l1, l2, l3] (.ref 1000 :: st) X Q := w_aload_n (by rfl) rfl (by decide)
set_option maxRecDepth 100000 in
theorem s222_404 {l0 l1 l2 : Value} {z1 : Int} : WP d 222 404 [l0, l1, l2, vI z1] (st) X Q = WP d 222 405 [l0, l1, l2, vI z1] (vI z1 :: st) X Q := w_iload_n (by rfl) rfl
set_option maxRecDepth 100000 in
theorem s222_405 {l0 l1 l2 l3 : Value}  : WP d 222 405 [l0, l1, l2, l3] (st) X Q = WP d 222 406 [l0, l1, l2, l3] (vI (1) :: st) X Q := w_iconst (by rfl)
set_option maxRecDepth 100000 in
theorem s222_406 {l0 l1 l2 l3 : Value} {z1 : Int} {z2 : Int} : WP d 222 406 [l0, l1, l2, l3] (vI z2 :: vI z1 :: st) X Q = WP d 222 407 [l0, l1, l2, l3] (vI (z1 + z2) :: st) X Q := w_iadd (by rfl)
set_option maxRecDepth 100000 in
theorem s222_407 {l0 l1 l2 l3 : Value} {j1 : Int} (hj : 0 ≤ j1 ∧ j1 < (L : Int)) (hm : L ≤ 2147483647) : WP d 222 407 [l0, l1, l2, l3] (vI j1 :: .ref 1000 :: st) (N, L, M) Q = WP d 222 408 [l0, l1, l2, l3] (M 1000 j1.toNat :: st) (N, L, M) Q := w_ialdS (by rfl) hj hm
set_option maxRecDepth 100000 in
theorem c222_408 {l0 l1 l2 l3 : Value} {x0 : Value} {z1 : Int} {r : Int} {X' : q_H} (hN : 82 < N) (hS : Sp d 121 [.ref 82, vI z1] (N, L, M) (some (vI r)) X') : WP d 222 408 [l0, l1, l2, l3] (vI z1 :: .ref 82 :: x0 :: []) (N, L, M) Q = WP d 222 411 [l0, l1, l2, l3] (vI r :: x0 :: []) X' Q := w_callv (vs := [vI z1]) (by rfl) (by rfl) rfl (Nat.le_of_ble_eq_true rfl) (kd := 9) (by rfl) (by decide) (Or.inl hN) (by rfl) hS
set_option maxRecDepth 100000 in
theorem s222_411 {l0 l1 l2 l3 : Value} {z1 : Int} {z2 : Int} (h1 : -2147483648 ≤ z1 ∧ z1 ≤ 2147483647) (h2 : -2147483648 ≤ z2 ∧ z2 ≤ 2147483647) : WP d 222 411 [l0, l1, l2, l3] (vI z2 :: vI z1 :: st) X Q = if z1 = z2 then WP d 222 1421 [l0, l1, l2, l3] (st) X Q else WP d 222 414 [l0, l1, l2, l3] (st) X Q := w_icmpeq (by rfl) (by decide) h1 h2
set_option maxRecDepth 100000 in
theorem s222_411b {l0 l1 l2 l3 : Value} {P R : Prop} [Decidable P] [Decidable R] : WP d 222 411 [l0, l1, l2, l3] (vI (bI R) :: vI (bI P) :: st) X Q = if (P ↔ R) then WP d 222 1421 [l0, l1, l2, l3] (st) X Q else WP d 222 414 [l0, l1, l2, l3] (st) X Q := w_icmpeqb (by rfl) (by decide)
set_option maxRecDepth 100000 in
theorem s222_414 {l0 l1 l2 l3 : Value}  : WP d 222 414 [l0, l1, l2, l3] (st) X Q = WP d 222 415 [l0, l1, l2, l3] (vI (0) :: st) X Q := w_iconst (by rfl)
set_option maxRecDepth 100000 in
theorem s222_415 {l0 l1 l2 l3 : Value} {z1 : Int} (hz : z1 = 0 ∨ z1 = 1) : WP d 222 415 [l0, l1, l2, l3] (vI z1 :: []) X Q = Q (some (vI z1)) X := w_iretz (by rfl) (by rfl) (nb_bool hz)
set_option maxRecDepth 100000 in
theorem s222_415b {l0 l1 l2 l3 : Value} {P : Prop} [Decidable P] : WP d 222 415 [l0, l1, l2, l3] (vI (bI P) :: []) X Q = Q (some (vI (bI P))) X := w_iretz (by rfl) (by rfl) (nb_bool (bI_01 P))
set_option maxRecDepth 100000 in
theorem s222_416 {l0 l2 l3 : Value}  : WP d 222 416 [l0, .ref 0, l2, l3] (st) X Q = WP d 222 417 [l0, .ref 0, l2, l3] (.ref 0 :: st) X Q := w_aload_n (by rfl) rfl (by decide)
set_option maxRecDepth 100000 in
theorem c222_417 {l0 l1 l2 l3 : Value} {r : Int} {X' : q_H} (hN : 0 < N) (hS : Sp d 60 [.ref 0] (N, L, M) (some (vI r)) X') : WP d 222 417 [l0, l1, l2, l3] (.ref 0 :: []) (N, L, M) Q = WP d 222 420 [l0, l1, l2, l3] (vI r :: []) X' Q := w_callv (vs := []) (by rfl) (by rfl) rfl (Nat.le_of_ble_eq_true rfl) (kd := 8) (by rfl) (by decide) (Or.inl hN) (by rfl) hS
set_option maxRecDepth 100000 in
theorem s222_420 {l0 l1 l3 : Value}  : WP d 222 420 [l0, l1, .ref 82, l3] (st) X Q = WP d 222 421 [l0, l1, .ref 82, l3] (.ref 82 :: st) X Q := w_aload_n (by rfl) rfl (by decide)
set_option maxRecDepth 100000 in
theorem c222_421 {l0 l1 l2 l3 : Value} {x0 : Value} {r : Int} {X' : q_H} (hN : 82 < N) (hS : Sp d 137 [.ref 82] (N, L, M) (some (vI r)) X') : WP d 222 421 [l0, l1, l2, l3] (.ref 82 :: x0 :: []) (N, L, M) Q = WP d 222 424 [l0, l1, l2, l3] (vI r :: x0 :: []) X' Q := w_callv (vs := []) (by rfl) (by rfl) rfl (Nat.le_of_ble_eq_true rfl) (kd := 9) (by rfl) (by decide) (Or.inl hN) (by rfl) hS
set_option maxRecDepth 100000 in
theorem s222_424 {l0 l1 l2 l3 : Value} {z1 : Int} {z2 : Int} (h1 : -2147483648 ≤ z1 ∧ z1 ≤ 2147483647) (h2 : -2147483648 ≤ z2 ∧ z2 ≤ 2147483647) : WP d 222 424 [l0, l1, l2, l3] (vI z2 :: vI z1 :: st) X Q = if z1 = z2 then WP d 222 1421 [l0, l1, l2, l3] (st) X Q else WP d 222 427 [l0, l1, l2, l3] (st) X Q := w_icmpeq (by rfl) (by decide) h1 h2
set_option maxRecDepth 100000 in
theorem s222_424b {l0 l1 l2 l3 : Value} {P R : Prop} [Decidable P] [Decidable R] : WP d 222 424 [l0, l1, l2, l3] (vI (bI R) :: vI (bI P) :: st) X Q = if (P ↔ R) then WP d 222 1421 [l0, l1, l2, l3] (st) X Q else WP d 222 427 [l0, l1, l2, l3] (st) X Q := w_icmpeqb (by rfl) (by decide)
set_option maxRecDepth 100000 in
theorem s222_427 {l0 l1 l2 l3 : Value}  : WP d 222 427 [l0, l1, l2, l3] (st) X Q = WP d 222 428 [l0, l1, l2, l3] (vI (0) :: st) X Q := w_iconst (by rfl)
set_option maxRecDepth 100000 in
theorem s222_428 {l0 l1 l2 l3 : Value} {z1 : Int} (hz : z1 = 0 ∨ z1 = 1) : WP d 222 428 [l0, l1, l2, l3] (vI z1 :: []) X Q = Q (some (vI z1)) X := w_iretz (by rfl) (by rfl) (nb_bool hz)
set_option maxRecDepth 100000 in
theorem s222_428b {l0 l1 l2 l3 : Value} {P : Prop} [Decidable P] : WP d 222 428 [l0, l1, l2, l3] (vI (bI P) :: []) X Q = Q (some (vI (bI P))) X := w_iretz (by rfl) (by rfl) (nb_bool (bI_01 P))
set_option maxRecDepth 100000 in
theorem s222_429 {l0 l2 l3 : Value}  : WP d 222 429 [l0, .ref 0, l2, l3] (st) X Q = WP d 222 430 [l0, .ref 0, l2, l3] (.ref 0 :: st) X Q := w_aload_n (by rfl) rfl (by decide)
set_option maxRecDepth 100000 in
theorem s222_430 {l1 l2 l3 : Value}  : WP d 222 430 [.ref 1000, l1, l2, l3] (st) X Q = WP d 222 431 [.ref 1000, l1, l2, l3] (.ref 1000 :: st) X Q := w_aload_n (by rfl) rfl (by decide)
set_option maxRecDepth 100000 in
theorem s222_431 {l0 l1 l2 : Value} {z1 : Int} : WP d 222 431 [l0, l1, l2, vI z1] (st) X Q = WP d 222 432 [l0, l1, l2, vI z1] (vI z1 :: st) X Q := w_iload_n (by rfl) rfl
set_option maxRecDepth 100000 in
theorem s222_432 {l0 l1 l2 l3 : Value}  : WP d 222 432 [l0, l1, l2, l3] (st) X Q = WP d 222 433 [l0, l1, l2, l3] (vI (1) :: st) X Q := w_iconst (by rfl)
set_option maxRecDepth 100000 in
theorem s222_433 {l0 l1 l2 l3 : Value} {z1 : Int} {z2 : Int} : WP d 222 433 [l0, l1, l2, l3] (vI z2 :: vI z1 :: st) X Q = WP d 222 434 [l0, l1, l2, l3] (vI (z1 + z2) :: st) X Q := w_iadd (by rfl)
set_option maxRecDepth 100000 in
theorem s222_434 {l0 l1 l2 l3 : Value} {j1 : Int} (hj : 0 ≤ j1 ∧ j1 < (L : Int)) (hm : L ≤ 2147483647) : WP d 222 434 [l0, l1, l2, l3] (vI j1 :: .ref 1000 :: st) (N, L, M) Q = WP d 222 435 [l0, l1, l2, l3] (M 1000 j1.toNat :: st) (N, L, M) Q := w_ialdS (by rfl) hj hm
set_option maxRecDepth 100000 in
theorem c222_435 {l0 l1 l2 l3 : Value} {z1 : Int} {r : Int} {X' : q_H} (hN : 0 < N) (hS : Sp d 61 [.ref 0, vI z1] (N, L, M) (some (vI r)) X') : WP d 222 435 [l0, l1, l2, l3] (vI z1 :: .ref 0 :: []) (N, L, M) Q = WP d 222 438 [l0, l1, l2, l3] (vI r :: []) X' Q := w_callv (vs := [vI z1]) (by rfl) (by rfl) rfl (Nat.le_of_ble_eq_true rfl) (kd := 8) (by rfl) (by decide) (Or.inl hN) (by rfl) hS
set_option maxRecDepth 100000 in
theorem s222_438 {l0 l1 l3 : Value}  : WP d 222 438 [l0, l1, .ref 82, l3] (st) X Q = WP d 222 439 [l0, l1, .ref 82, l3] (.ref 82 :: st) X Q := w_aload_n (by rfl) rfl (by decide)
set_option maxRecDepth 100000 in
theorem s222_439 {l1 l2 l3 : Value}  : WP d 222 439 [.ref 1000, l1, l2, l3] (st) X Q = WP d 222 440 [.ref 1000, l1, l2, l3] (.ref 1000 :: st) X Q := w_aload_n (by rfl) rfl (by decide)
set_option maxRecDepth 100000 in
theorem s222_440 {l0 l1 l2 : Value} {z1 : Int} : WP d 222 440 [l0, l1, l2, vI z1] (st) X Q = WP d 222 441 [l0, l1, l2, vI z1] (vI z1 :: st) X Q := w_iload_n (by rfl) rfl
set_option maxRecDepth 100000 in
theorem s222_441 {l0 l1 l2 l3 : Value}  : WP d 222 441 [l0, l1, l2, l3] (st) X Q = WP d 222 442 [l0, l1, l2, l3] (vI (1) :: st) X Q := w_iconst (by rfl)
set_option maxRecDepth 100000 in
theorem s222_442 {l0 l1 l2 l3 : Value} {z1 : Int} {z2 : Int} : WP d 222 442 [l0, l1, l2, l3] (vI z2 :: vI z1 :: st) X Q = WP d 222 443 [l0, l1, l2, l3] (vI (z1 + z2) :: st) X Q := w_iadd (by rfl)
set_option maxRecDepth 100000 in
theorem s222_443 {l0 l1 l2 l3 : Value} {j1 : Int} (hj : 0 ≤ j1 ∧ j1 < (L : Int)) (hm : L ≤ 2147483647) : WP d 222 443 [l0, l1, l2, l3] (vI j1 :: .ref 1000 :: st) (N, L, M) Q = WP d 222 444 [l0, l1, l2, l3] (M 1000 j1.toNat :: st) (N, L, M) Q := w_ialdS (by rfl) hj hm
set_option maxRecDepth 100000 in
theorem c222_444 {l0 l1 l2 l3 : Value} {x0 : Value} {z1 : Int} {r : Int} {X' : q_H} (hN : 82 < N) (hS : Sp d 152 [.ref 82, vI z1] (N, L, M) (some (vI r)) X') : WP d 222 444 [l0, l1, l2, l3] (vI z1 :: .ref 82 :: x0 :: []) (N, L, M) Q = WP d 222 447 [l0, l1, l2, l3] (vI r :: x0 :: []) X' Q := w_callv (vs := [vI z1]) (by rfl) (by rfl) rfl (Nat.le_of_ble_eq_true rfl) (kd := 9) (by rfl) (by decide) (Or.inl hN) (by rfl) hS
set_option maxRecDepth 100000 in
theorem s222_447 {l0 l1 l2 l3 : Value} {z1 : Int} {z2 : Int} (h1 : -2147483648 ≤ z1 ∧ z1 ≤ 2147483647) (h2 : -2147483648 ≤ z2 ∧ z2 ≤ 2147483647) : WP d 222 447 [l0, l1, l2, l3] (vI z2 :: vI z1 :: st) X Q = if z1 = z2 then WP d 222 1421 [l0, l1, l2, l3] (st) X Q else WP d 222 450 [l0, l1, l2, l3] (st) X Q := w_icmpeq (by rfl) (by decide) h1 h2
set_option maxRecDepth 100000 in
theorem s222_447b {l0 l1 l2 l3 : Value} {P R : Prop} [Decidable P] [Decidable R] : WP d 222 447 [l0, l1, l2, l3] (vI (bI R) :: vI (bI P) :: st) X Q = if (P ↔ R) then WP d 222 1421 [l0, l1, l2, l3] (st) X Q else WP d 222 450 [l0, l1, l2, l3] (st) X Q := w_icmpeqb (by rfl) (by decide)
set_option maxRecDepth 100000 in
theorem s222_450 {l0 l1 l2 l3 : Value}  : WP d 222 450 [l0, l1, l2, l3] (st) X Q = WP d 222 451 [l0, l1, l2, l3] (vI (0) :: st) X Q := w_iconst (by rfl)
set_option maxRecDepth 100000 in
theorem s222_451 {l0 l1 l2 l3 : Value} {z1 : Int} (hz : z1 = 0 ∨ z1 = 1) : WP d 222 451 [l0, l1, l2, l3] (vI z1 :: []) X Q = Q (some (vI z1)) X := w_iretz (by rfl) (by rfl) (nb_bool hz)
set_option maxRecDepth 100000 in
theorem s222_451b {l0 l1 l2 l3 : Value} {P : Prop} [Decidable P] : WP d 222 451 [l0, l1, l2, l3] (vI (bI P) :: []) X Q = Q (some (vI (bI P))) X := w_iretz (by rfl) (by rfl) (nb_bool (bI_01 P))
set_option maxRecDepth 100000 in
theorem s222_452 {l0 l2 l3 : Value}  : WP d 222 452 [l0, .ref 0, l2, l3] (st) X Q = WP d 222 453 [l0, .ref 0, l2, l3] (.ref 0 :: st) X Q := w_aload_n (by rfl) rfl (by decide)
set_option maxRecDepth 100000 in
theorem s222_453 {l1 l2 l3 : Value}  : WP d 222 453 [.ref 1000, l1, l2, l3] (st) X Q = WP d 222 454 [.ref 1000, l1, l2, l3] (.ref 1000 :: st) X Q := w_aload_n (by rfl) rfl (by decide)
set_option maxRecDepth 100000 in
theorem s222_454 {l0 l1 l2 : Value} {z1 : Int} : WP d 222 454 [l0, l1, l2, vI z1] (st) X Q = WP d 222 455 [l0, l1, l2, vI z1] (vI z1 :: st) X Q := w_iload_n (by rfl) rfl
set_option maxRecDepth 100000 in
theorem s222_455 {l0 l1 l2 l3 : Value}  : WP d 222 455 [l0, l1, l2, l3] (st) X Q = WP d 222 456 [l0, l1, l2, l3] (vI (1) :: st) X Q := w_iconst (by rfl)
set_option maxRecDepth 100000 in
theorem s222_456 {l0 l1 l2 l3 : Value} {z1 : Int} {z2 : Int} : WP d 222 456 [l0, l1, l2, l3] (vI z2 :: vI z1 :: st) X Q = WP d 222 457 [l0, l1, l2, l3] (vI (z1 + z2) :: st) X Q := w_iadd (by rfl)
set_option maxRecDepth 100000 in
theorem s222_457 {l0 l1 l2 l3 : Value} {j1 : Int} (hj : 0 ≤ j1 ∧ j1 < (L : Int)) (hm : L ≤ 2147483647) : WP d 222 457 [l0, l1, l2, l3] (vI j1 :: .ref 1000 :: st) (N, L, M) Q = WP d 222 458 [l0, l1, l2, l3] (M 1000 j1.toNat :: st) (N, L, M) Q := w_ialdS (by rfl) hj hm
set_option maxRecDepth 100000 in
theorem s222_458 {l1 l2 l3 : Value}  : WP d 222 458 [.ref 1000, l1, l2, l3] (st) X Q = WP d 222 459 [.ref 1000, l1, l2, l3] (.ref 1000 :: st) X Q := w_aload_n (by rfl) rfl (by decide)
set_option maxRecDepth 100000 in
theorem s222_459 {l0 l1 l2 : Value} {z1 : Int} : WP d 222 459 [l0, l1, l2, vI z1] (st) X Q = WP d 222 460 [l0, l1, l2, vI z1] (vI z1 :: st) X Q := w_iload_n (by rfl) rfl
set_option maxRecDepth 100000 in
theorem s222_460 {l0 l1 l2 l3 : Value}  : WP d 222 460 [l0, l1, l2, l3] (st) X Q = WP d 222 461 [l0, l1, l2, l3] (vI (2) :: st) X Q := w_iconst (by rfl)
set_option maxRecDepth 100000 in
theorem s222_461 {l0 l1 l2 l3 : Value} {z1 : Int} {z2 : Int} : WP d 222 461 [l0, l1, l2, l3] (vI z2 :: vI z1 :: st) X Q = WP d 222 462 [l0, l1, l2, l3] (vI (z1 + z2) :: st) X Q := w_iadd (by rfl)
set_option maxRecDepth 100000 in
theorem s222_462 {l0 l1 l2 l3 : Value} {j1 : Int} (hj : 0 ≤ j1 ∧ j1 < (L : Int)) (hm : L ≤ 2147483647) : WP d 222 462 [l0, l1, l2, l3] (vI j1 :: .ref 1000 :: st) (N, L, M) Q = WP d 222 463 [l0, l1, l2, l3] (M 1000 j1.toNat :: st) (N, L, M) Q := w_ialdS (by rfl) hj hm
set_option maxRecDepth 100000 in
theorem c222_463 {l0 l1 l2 l3 : Value} {z1 : Int} {z2 : Int} {r : Int} {X' : q_H} (hN : 0 < N) (hS : Sp d 62 [.ref 0, vI z1, vI z2] (N, L, M) (some (vI r)) X') : WP d 222 463 [l0, l1, l2, l3] (vI z2 :: vI z1 :: .ref 0 :: []) (N, L, M) Q = WP d 222 466 [l0, l1, l2, l3] (vI r :: []) X' Q := w_callv (vs := [vI z1, vI z2]) (by rfl) (by rfl) rfl (Nat.le_of_ble_eq_true rfl) (kd := 8) (by rfl) (by decide) (Or.inl hN) (by rfl) hS
set_option maxRecDepth 100000 in
theorem s222_466 {l0 l1 l3 : Value}  : WP d 222 466 [l0, l1, .ref 82, l3] (st) X Q = WP d 222 467 [l0, l1, .ref 82, l3] (.ref 82 :: st) X Q := w_aload_n (by rfl) rfl (by decide)
set_option maxRecDepth 100000 in
theorem s222_467 {l1 l2 l3 : Value}  : WP d 222 467 [.ref 1000, l1, l2, l3] (st) X Q = WP d 222 468 [.ref 1000, l1, l2, l3] (.ref 1000 :: st) X Q := w_aload_n (by rfl) rfl (by decide)
set_option maxRecDepth 100000 in
theorem s222_468 {l0 l1 l2 : Value} {z1 : Int} : WP d 222 468 [l0, l1, l2, vI z1] (st) X Q = WP d 222 469 [l0, l1, l2, vI z1] (vI z1 :: st) X Q := w_iload_n (by rfl) rfl
set_option maxRecDepth 100000 in
theorem s222_469 {l0 l1 l2 l3 : Value}  : WP d 222 469 [l0, l1, l2, l3] (st) X Q = WP d 222 470 [l0, l1, l2, l3] (vI (1) :: st) X Q := w_iconst (by rfl)
set_option maxRecDepth 100000 in
theorem s222_470 {l0 l1 l2 l3 : Value} {z1 : Int} {z2 : Int} : WP d 222 470 [l0, l1, l2, l3] (vI z2 :: vI z1 :: st) X Q = WP d 222 471 [l0, l1, l2, l3] (vI (z1 + z2) :: st) X Q := w_iadd (by rfl)
set_option maxRecDepth 100000 in
theorem s222_471 {l0 l1 l2 l3 : Value} {j1 : Int} (hj : 0 ≤ j1 ∧ j1 < (L : Int)) (hm : L ≤ 2147483647) : WP d 222 471 [l0, l1, l2, l3] (vI j1 :: .ref 1000 :: st) (N, L, M) Q = WP d 222 472 [l0, l1, l2, l3] (M 1000 j1.toNat :: st) (N, L, M) Q := w_ialdS (by rfl) hj hm
set_option maxRecDepth 100000 in
theorem s222_472 {l1 l2 l3 : Value}  : WP d 222 472 [.ref 1000, l1, l2, l3] (st) X Q = WP d 222 473 [.ref 1000, l1, l2, l3] (.ref 1000 :: st) X Q := w_aload_n (by rfl) rfl (by decide)
set_option maxRecDepth 100000 in
theorem s222_473 {l0 l1 l2 : Value} {z1 : Int} : WP d 222 473 [l0, l1, l2, vI z1] (st) X Q = WP d 222 474 [l0, l1, l2, vI z1] (vI z1 :: st) X Q := w_iload_n (by rfl) rfl
set_option maxRecDepth 100000 in
theorem s222_474 {l0 l1 l2 l3 : Value}  : WP d 222 474 [l0, l1, l2, l3] (st) X Q = WP d 222 475 [l0, l1, l2, l3] (vI (2) :: st) X Q := w_iconst (by rfl)
set_option maxRecDepth 100000 in
theorem s222_475 {l0 l1 l2 l3 : Value} {z1 : Int} {z2 : Int} : WP d 222 475 [l0, l1, l2, l3] (vI z2 :: vI z1 :: st) X Q = WP d 222 476 [l0, l1, l2, l3] (vI (z1 + z2) :: st) X Q := w_iadd (by rfl)
set_option maxRecDepth 100000 in
theorem s222_476 {l0 l1 l2 l3 : Value} {j1 : Int} (hj : 0 ≤ j1 ∧ j1 < (L : Int)) (hm : L ≤ 2147483647) : WP d 222 476 [l0, l1, l2, l3] (vI j1 :: .ref 1000 :: st) (N, L, M) Q = WP d 222 477 [l0, l1, l2, l3] (M 1000 j1.toNat :: st) (N, L, M) Q := w_ialdS (by rfl) hj hm
set_option maxRecDepth 100000 in
theorem c222_477 {l0 l1 l2 l3 : Value} {x0 : Value} {z1 : Int} {z2 : Int} {r : Int} {X' : q_H} (hN : 82 < N) (hS : Sp d 154 [.ref 82, vI z1, vI z2] (N, L, M) (some (vI r)) X') : WP d 222 477 [l0, l1, l2, l3] (vI z2 :: vI z1 :: .ref 82 :: x0 :: []) (N, L, M) Q = WP d 222 480 [l0, l1, l2, l3] (vI r :: x0 :: []) X' Q := w_callv (vs := [vI z1, vI z2]) (by rfl) (by rfl) rfl (Nat.le_of_ble_eq_true rfl) (kd := 9) (by rfl) (by decide) (Or.inl hN) (by rfl) hS
set_option maxRecDepth 100000 in
theorem s222_480 {l0 l1 l2 l3 : Value} {z1 : Int} {z2 : Int} (h1 : -2147483648 ≤ z1 ∧ z1 ≤ 2147483647) (h2 : -2147483648 ≤ z2 ∧ z2 ≤ 2147483647) : WP d 222 480 [l0, l1, l2, l3] (vI z2 :: vI z1 :: st) X Q = if z1 = z2 then WP d 222 1421 [l0, l1, l2, l3] (st) X Q else WP d 222 483 [l0, l1, l2, l3] (st) X Q := w_icmpeq (by rfl) (by decide) h1 h2
set_option maxRecDepth 100000 in
theorem s222_480b {l0 l1 l2 l3 : Value} {P R : Prop} [Decidable P] [Decidable R] : WP d 222 480 [l0, l1, l2, l3] (vI (bI R) :: vI (bI P) :: st) X Q = if (P ↔ R) then WP d 222 1421 [l0, l1, l2, l3] (st) X Q else WP d 222 483 [l0, l1, l2, l3] (st) X Q := w_icmpeqb (by rfl) (by decide)
set_option maxRecDepth 100000 in
theorem s222_483 {l0 l1 l2 l3 : Value}  : WP d 222 483 [l0, l1, l2, l3] (st) X Q = WP d 222 484 [l0, l1, l2, l3] (vI (0) :: st) X Q := w_iconst (by rfl)
set_option maxRecDepth 100000 in
theorem s222_484 {l0 l1 l2 l3 : Value} {z1 : Int} (hz : z1 = 0 ∨ z1 = 1) : WP d 222 484 [l0, l1, l2, l3] (vI z1 :: []) X Q = Q (some (vI z1)) X := w_iretz (by rfl) (by rfl) (nb_bool hz)
set_option maxRecDepth 100000 in
theorem s222_484b {l0 l1 l2 l3 : Value} {P : Prop} [Decidable P] : WP d 222 484 [l0, l1, l2, l3] (vI (bI P) :: []) X Q = Q (some (vI (bI P))) X := w_iretz (by rfl) (by rfl) (nb_bool (bI_01 P))
set_option maxRecDepth 100000 in
theorem s222_485 {l0 l2 l3 : Value}  : WP d 222 485 [l0, .ref 0, l2, l3] (st) X Q = WP d 222 486 [l0, .ref 0, l2, l3] (.ref 0 :: st) X Q := w_aload_n (by rfl) rfl (by decide)
set_option maxRecDepth 100000 in
theorem s222_486 {l1 l2 l3 : Value}  : WP d 222 486 [.ref 1000, l1, l2, l3] (st) X Q = WP d 222 487 [.ref 1000, l1, l2, l3] (.ref 1000 :: st) X Q := w_aload_n (by rfl) rfl (by decide)
set_option maxRecDepth 100000 in
theorem s222_487 {l0 l1 l2 : Value} {z1 : Int} : WP d 222 487 [l0, l1, l2, vI z1] (st) X Q = WP d 222 488 [l0, l1, l2, vI z1] (vI z1 :: st) X Q := w_iload_n (by rfl) rfl
set_option maxRecDepth 100000 in
theorem s222_488 {l0 l1 l2 l3 : Value}  : WP d 222 488 [l0, l1, l2, l3] (st) X Q = WP d 222 489 [l0, l1, l2, l3] (vI (1) :: st) X Q := w_iconst (by rfl)
set_option maxRecDepth 100000 in
theorem s222_489 {l0 l1 l2 l3 : Value} {z1 : Int} {z2 : Int} : WP d 222 489 [l0, l1, l2, l3] (vI z2 :: vI z1 :: st) X Q = WP d 222 490 [l0, l1, l2, l3] (vI (z1 + z2) :: st) X Q := w_iadd (by rfl)
set_option maxRecDepth 100000 in
theorem s222_490 {l0 l1 l2 l3 : Value} {j1 : Int} (hj : 0 ≤ j1 ∧ j1 < (L : Int)) (hm : L ≤ 2147483647) : WP d 222 490 [l0, l1, l2, l3] (vI j1 :: .ref 1000 :: st) (N, L, M) Q = WP d 222 491 [l0, l1, l2, l3] (M 1000 j1.toNat :: st) (N, L, M) Q := w_ialdS (by rfl) hj hm
set_option maxRecDepth 100000 in
theorem c222_491 {l0 l1 l2 l3 : Value} {z1 : Int} {r : Int} {X' : q_H} (hN : 0 < N) (hS : Sp d 63 [.ref 0, vI z1] (N, L, M) (some (vI r)) X') : WP d 222 491 [l0, l1, l2, l3] (vI z1 :: .ref 0 :: []) (N, L, M) Q = WP d 222 494 [l0, l1, l2, l3] (vI r :: []) X' Q := w_callv (vs := [vI z1]) (by rfl) (by rfl) rfl (Nat.le_of_ble_eq_true rfl) (kd := 8) (by rfl) (by decide) (Or.inl hN) (by rfl) hS
set_option maxRecDepth 100000 in
theorem s222_494 {l0 l1 l3 : Value}  : WP d 222 494 [l0, l1, .ref 82, l3] (st) X Q = WP d 222 495 [l0, l1, .ref 82, l3] (.ref 82 :: st) X Q := w_aload_n (by rfl) rfl (by decide)
set_option maxRecDepth 100000 in
theorem s222_495 {l1 l2 l3 : Value}  : WP d 222 495 [.ref 1000, l1, l2, l3] (st) X Q = WP d 222 496 [.ref 1000, l1, l2, l3] (.ref 1000 :: st) X Q := w_aload_n (by rfl) rfl (by decide)
set_option maxRecDepth 100000 in
theorem s222_496 {l0 l1 l2 : Value} {z1 : Int} : WP d 222 496 [l0, l1, l2, vI z1] (st) X Q = WP d 222 497 [l0, l1, l2, vI z1] (vI z1 :: st) X Q := w_iload_n (by rfl) rfl
set_option maxRecDepth 100000 in
theorem s222_497 {l0 l1 l2 l3 : Value}  : WP d 222 497 [l0, l1, l2, l3] (st) X Q = WP d 222 498 [l0, l1, l2, l3] (vI (1) :: st) X Q := w_iconst (by rfl)
set_option maxRecDepth 100000 in
theorem s222_498 {l0 l1 l2 l3 : Value} {z1 : Int} {z2 : Int} : WP d 222 498 [l0, l1, l2, l3] (vI z2 :: vI z1 :: st) X Q = WP d 222 499 [l0, l1, l2, l3] (vI (z1 + z2) :: st) X Q := w_iadd (by rfl)
set_option maxRecDepth 100000 in
theorem s222_499 {l0 l1 l2 l3 : Value} {j1 : Int} (hj : 0 ≤ j1 ∧ j1 < (L : Int)) (hm : L ≤ 2147483647) : WP d 222 499 [l0, l1, l2, l3] (vI j1 :: .ref 1000 :: st) (N, L, M) Q = WP d 222 500 [l0, l1, l2, l3] (M 1000 j1.toNat :: st) (N, L, M) Q := w_ialdS (by rfl) hj hm
set_option maxRecDepth 100000 in
theorem c222_500 {l0 l1 l2 l3 : Value} {x0 : Value} {z1 : Int} {r : Int} {X' : q_H} (hN : 82 < N) (hS : Sp d 157 [.ref 82, vI z1] (N, L, M) (some (vI r)) X') : WP d 222 500 [l0, l1, l2, l3] (vI z1 :: .ref 82 :: x0 :: []) (N, L, M) Q = WP d 222 503 [l0, l1, l2, l3] (vI r :: x0 :: []) X' Q := w_callv (vs := [vI z1]) (by rfl) (by rfl) rfl (Nat.le_of_ble_eq_true rfl) (kd := 9) (by rfl) (by decide) (Or.inl hN) (by rfl) hS
set_option maxRecDepth 100000 in
theorem s222_503 {l0 l1 l2 l3 : Value} {z1 : Int} {z2 : Int} (h1 : -2147483648 ≤ z1 ∧ z1 ≤ 2147483647) (h2 : -2147483648 ≤ z2 ∧ z2 ≤ 2147483647) : WP d 222 503 [l0, l1, l2, l3] (vI z2 :: vI z1 :: st) X Q = if z1 = z2 then WP d 222 1421 [l0, l1, l2, l3] (st) X Q else WP d 222 506 [l0, l1, l2, l3] (st) X Q := w_icmpeq (by rfl) (by decide) h1 h2
set_option maxRecDepth 100000 in
theorem s222_503b {l0 l1 l2 l3 : Value} {P R : Prop} [Decidable P] [Decidable R] : WP d 222 503 [l0, l1, l2, l3] (vI (bI R) :: vI (bI P) :: st) X Q = if (P ↔ R) then WP d 222 1421 [l0, l1, l2, l3] (st) X Q else WP d 222 506 [l0, l1, l2, l3] (st) X Q := w_icmpeqb (by rfl) (by decide)
set_option maxRecDepth 100000 in
theorem s222_506 {l0 l1 l2 l3 : Value}  : WP d 222 506 [l0, l1, l2, l3] (st) X Q = WP d 222 507 [l0, l1, l2, l3] (vI (0) :: st) X Q := w_iconst (by rfl)
set_option maxRecDepth 100000 in
theorem s222_507 {l0 l1 l2 l3 : Value} {z1 : Int} (hz : z1 = 0 ∨ z1 = 1) : WP d 222 507 [l0, l1, l2, l3] (vI z1 :: []) X Q = Q (some (vI z1)) X := w_iretz (by rfl) (by rfl) (nb_bool hz)
set_option maxRecDepth 100000 in
theorem s222_507b {l0 l1 l2 l3 : Value} {P : Prop} [Decidable P] : WP d 222 507 [l0, l1, l2, l3] (vI (bI P) :: []) X Q = Q (some (vI (bI P))) X := w_iretz (by rfl) (by rfl) (nb_bool (bI_01 P))
set_option maxRecDepth 100000 in
theorem s222_508 {l0 l2 l3 : Value}  : WP d 222 508 [l0, .ref 0, l2, l3] (st) X Q = WP d 222 509 [l0, .ref 0, l2, l3] (.ref 0 :: st) X Q := w_aload_n (by rfl) rfl (by decide)
set_option maxRecDepth 100000 in
theorem s222_509 {l1 l2 l3 : Value}  : WP d 222 509 [.ref 1000, l1, l2, l3] (st) X Q = WP d 222 510 [.ref 1000, l1, l2, l3] (.ref 1000 :: st) X Q := w_aload_n (by rfl) rfl (by decide)
set_option maxRecDepth 100000 in
theorem s222_510 {l0 l1 l2 : Value} {z1 : Int} : WP d 222 510 [l0, l1, l2, vI z1] (st) X Q = WP d 222 511 [l0, l1, l2, vI z1] (vI z1 :: st) X Q := w_iload_n (by rfl) rfl
set_option maxRecDepth 100000 in
theorem s222_511 {l0 l1 l2 l3 : Value}  : WP d 222 511 [l0, l1, l2, l3] (st) X Q = WP d 222 512 [l0, l1, l2, l3] (vI (1) :: st) X Q := w_iconst (by rfl)
set_option maxRecDepth 100000 in
theorem s222_512 {l0 l1 l2 l3 : Value} {z1 : Int} {z2 : Int} : WP d 222 512 [l0, l1, l2, l3] (vI z2 :: vI z1 :: st) X Q = WP d 222 513 [l0, l1, l2, l3] (vI (z1 + z2) :: st) X Q := w_iadd (by rfl)
set_option maxRecDepth 100000 in
theorem s222_513 {l0 l1 l2 l3 : Value} {j1 : Int} (hj : 0 ≤ j1 ∧ j1 < (L : Int)) (hm : L ≤ 2147483647) : WP d 222 513 [l0, l1, l2, l3] (vI j1 :: .ref 1000 :: st) (N, L, M) Q = WP d 222 514 [l0, l1, l2, l3] (M 1000 j1.toNat :: st) (N, L, M) Q := w_ialdS (by rfl) hj hm
set_option maxRecDepth 100000 in
theorem c222_514 {l0 l1 l2 l3 : Value} {z1 : Int} {r : Int} {X' : q_H} (hN : 0 < N) (hS : Sp d 64 [.ref 0, vI z1] (N, L, M) (some (vI r)) X') : WP d 222 514 [l0, l1, l2, l3] (vI z1 :: .ref 0 :: []) (N, L, M) Q = WP d 222 517 [l0, l1, l2, l3] (vI r :: []) X' Q := w_callv (vs := [vI z1]) (by rfl) (by rfl) rfl (Nat.le_of_ble_eq_true rfl) (kd := 8) (by rfl) (by decide) (Or.inl hN) (by rfl) hS
set_option maxRecDepth 100000 in
theorem s222_517 {l0 l1 l3 : Value}  : WP d 222 517 [l0, l1, .ref 82, l3] (st) X Q = WP d 222 518 [l0, l1, .ref 82, l3] (.ref 82 :: st) X Q := w_aload_n (by rfl) rfl (by decide)
set_option maxRecDepth 100000 in
theorem s222_518 {l1 l2 l3 : Value}  : WP d 222 518 [.ref 1000, l1, l2, l3] (st) X Q = WP d 222 519 [.ref 1000, l1, l2, l3] (.ref 1000 :: st) X Q := w_aload_n (by rfl) rfl (by decide)
set_option maxRecDepth 100000 in
theorem s222_519 {l0 l1 l2 : Value} {z1 : Int} : WP d 222 519 [l0, l1, l2, vI z1] (st) X Q = WP d 222 520 [l0, l1, l2, vI z1] (vI z1 :: st) X Q := w_iload_n (by rfl) rfl
set_option maxRecDepth 100000 in
theorem s222_520 {l0 l1 l2 l3 : Value}  : WP d 222 520 [l0, l1, l2, l3] (st) X Q = WP d 222 521 [l0, l1, l2, l3] (vI (1) :: st) X Q := w_iconst (by rfl)
set_option maxRecDepth 100000 in
theorem s222_521 {l0 l1 l2 l3 : Value} {z1 : Int} {z2 : Int} : WP d 222 521 [l0, l1, l2, l3] (vI z2 :: vI z1 :: st) X Q = WP d 222 522 [l0, l1, l2, l3] (vI (z1 + z2) :: st) X Q := w_iadd (by rfl)
set_option maxRecDepth 100000 in
theorem s222_522 {l0 l1 l2 l3 : Value} {j1 : Int} (hj : 0 ≤ j1 ∧ j1 < (L : Int)) (hm : L ≤ 2147483647) : WP d 222 522 [l0, l1, l2, l3] (vI j1 :: .ref 1000 :: st) (N, L, M) Q = WP d 222 523 [l0, l1, l2, l3] (M 1000 j1.toNat :: st) (N, L, M) Q := w_ialdS (by rfl) hj hm
set_option maxRecDepth 100000 in
theorem c222_523 {l0 l1 l2 l3 : Value} {x0 : Value} {z1 : Int} {r : Int} {X' : q_H} (hN : 82 < N) (hS : Sp d 159 [.ref 82, vI z1] (N, L, M) (some (vI r)) X') : WP d 222 523 [l0, l1, l2, l3] (vI z1 :: .ref 82 :: x0 :: []) (N, L, M) Q = WP d 222 526 [l0, l1, l2, l3] (vI r :: x0 :: []) X' Q := w_callv (vs := [vI z1]) (by rfl) (by rfl) rfl (Nat.le_of_ble_eq_true rfl) (kd := 9) (by rfl) (by decide) (Or.inl hN) (by rfl) hS
set_option maxRecDepth 100000 in
theorem s222_526 {l0 l1 l2 l3 : Value} {z1 : Int} {z2 : Int} (h1 : -2147483648 ≤ z1 ∧ z1 ≤ 2147483647) (h2 : -2147483648 ≤ z2 ∧ z2 ≤ 2147483647) : WP d 222 526 [l0, l1, l2, l3] (vI z2 :: vI z1 :: st) X Q = if z1 = z2 then WP d 222 1421 [l0, l1, l2, l3] (st) X Q else WP d 222 529 [l0, l1, l2, l3] (st) X Q := w_icmpeq (by rfl) (by decide) h1 h2
set_option maxRecDepth 100000 in
theorem s222_526b {l0 l1 l2 l3 : Value} {P R : Prop} [Decidable P] [Decidable R] : WP d 222 526 [l0, l1, l2, l3] (vI (bI R) :: vI (bI P) :: st) X Q = if (P ↔ R) then WP d 222 1421 [l0, l1, l2, l3] (st) X Q else WP d 222 529 [l0, l1, l2, l3] (st) X Q := w_icmpeqb (by rfl) (by decide)
set_option maxRecDepth 100000 in
theorem s222_529 {l0 l1 l2 l3 : Value}  : WP d 222 529 [l0, l1, l2, l3] (st) X Q = WP d 222 530 [l0, l1, l2, l3] (vI (0) :: st) X Q := w_iconst (by rfl)
set_option maxRecDepth 100000 in
theorem s222_530 {l0 l1 l2 l3 : Value} {z1 : Int} (hz : z1 = 0 ∨ z1 = 1) : WP d 222 530 [l0, l1, l2, l3] (vI z1 :: []) X Q = Q (some (vI z1)) X := w_iretz (by rfl) (by rfl) (nb_bool hz)
set_option maxRecDepth 100000 in
theorem s222_530b {l0 l1 l2 l3 : Value} {P : Prop} [Decidable P] : WP d 222 530 [l0, l1, l2, l3] (vI (bI P) :: []) X Q = Q (some (vI (bI P))) X := w_iretz (by rfl) (by rfl) (nb_bool (bI_01 P))
set_option maxRecDepth 100000 in
theorem s222_531 {l0 l2 l3 : Value}  : WP d 222 531 [l0, .ref 0, l2, l3] (st) X Q = WP d 222 532 [l0, .ref 0, l2, l3] (.ref 0 :: st) X Q := w_aload_n (by rfl) rfl (by decide)
set_option maxRecDepth 100000 in
theorem s222_532 {l1 l2 l3 : Value}  : WP d 222 532 [.ref 1000, l1, l2, l3] (st) X Q = WP d 222 533 [.ref 1000, l1, l2, l3] (.ref 1000 :: st) X Q := w_aload_n (by rfl) rfl (by decide)
set_option maxRecDepth 100000 in
theorem s222_533 {l0 l1 l2 : Value} {z1 : Int} : WP d 222 533 [l0, l1, l2, vI z1] (st) X Q = WP d 222 534 [l0, l1, l2, vI z1] (vI z1 :: st) X Q := w_iload_n (by rfl) rfl
set_option maxRecDepth 100000 in
theorem s222_534 {l0 l1 l2 l3 : Value}  : WP d 222 534 [l0, l1, l2, l3] (st) X Q = WP d 222 535 [l0, l1, l2, l3] (vI (1) :: st) X Q := w_iconst (by rfl)
set_option maxRecDepth 100000 in
theorem s222_535 {l0 l1 l2 l3 : Value} {z1 : Int} {z2 : Int} : WP d 222 535 [l0, l1, l2, l3] (vI z2 :: vI z1 :: st) X Q = WP d 222 536 [l0, l1, l2, l3] (vI (z1 + z2) :: st) X Q := w_iadd (by rfl)
set_option maxRecDepth 100000 in
theorem s222_536 {l0 l1 l2 l3 : Value} {j1 : Int} (hj : 0 ≤ j1 ∧ j1 < (L : Int)) (hm : L ≤ 2147483647) : WP d 222 536 [l0, l1, l2, l3] (vI j1 :: .ref 1000 :: st) (N, L, M) Q = WP d 222 537 [l0, l1, l2, l3] (M 1000 j1.toNat :: st) (N, L, M) Q := w_ialdS (by rfl) hj hm
set_option maxRecDepth 100000 in
theorem s222_537 {l1 l2 l3 : Value}  : WP d 222 537 [.ref 1000, l1, l2, l3] (st) X Q = WP d 222 538 [.ref 1000, l1, l2, l3] (.ref 1000 :: st) X Q := w_aload_n (by rfl) rfl (by decide)
set_option maxRecDepth 100000 in
theorem s222_538 {l0 l1 l2 : Value} {z1 : Int} : WP d 222 538 [l0, l1, l2, vI z1] (st) X Q = WP d 222 539 [l0, l1, l2, vI z1] (vI z1 :: st) X Q := w_iload_n (by rfl) rfl
set_option maxRecDepth 100000 in
theorem s222_539 {l0 l1 l2 l3 : Value}  : WP d 222 539 [l0, l1, l2, l3] (st) X Q = WP d 222 540 [l0, l1, l2, l3] (vI (2) :: st) X Q := w_iconst (by rfl)
set_option maxRecDepth 100000 in
theorem s222_540 {l0 l1 l2 l3 : Value} {z1 : Int} {z2 : Int} : WP d 222 540 [l0, l1, l2, l3] (vI z2 :: vI z1 :: st) X Q = WP d 222 541 [l0, l1, l2, l3] (vI (z1 + z2) :: st) X Q := w_iadd (by rfl)
set_option maxRecDepth 100000 in
theorem s222_541 {l0 l1 l2 l3 : Value} {j1 : Int} (hj : 0 ≤ j1 ∧ j1 < (L : Int)) (hm : L ≤ 2147483647) : WP d 222 541 [l0, l1, l2, l3] (vI j1 :: .ref 1000 :: st) (N, L, M) Q = WP d 222 542 [l0, l1, l2, l3] (M 1000 j1.toNat :: st) (N, L, M) Q := w_ialdS (by rfl) hj hm
set_option maxRecDepth 100000 in
theorem c222_542 {l0 l1 l2 l3 : Value} {z1 : Int} {z2 : Int} {r : Int} {X' : q_H} (hN : 0 < N) (hS : Sp d 65 [.ref 0, vI z1, vI z2] (N, L, M) (some (vI r)) X') : WP d 222 542 [l0, l1, l2, l3] (vI z2 :: vI z1 :: .ref 0 :: []) (N, L, M) Q = WP d 222 545 [l0, l1, l2, l3] (vI r :: []) X' Q := w_callv (vs := [vI z1, vI z2]) (by rfl) (by rfl) rfl (Nat.le_of_ble_eq_true rfl) (kd := 8) (by rfl) (by decide) (Or.inl hN) (by rfl) hS
set_option maxRecDepth 100000 in
theorem s222_545 {l0 l1 l3 : Value}  : WP d 222 545 [l0, l1, .ref 82, l3] (st) X Q = WP d 222 546 [l0, l1, .ref 82, l3] (.ref 82 :: st) X Q := w_aload_n (by rfl) rfl (by decide)
set_option maxRecDepth 100000 in
theorem s222_546 {l1 l2 l3 : Value}  : WP d 222 546 [.ref 1000, l1, l2, l3] (st) X Q = WP d 222 547 [.ref 1000, l1, l2, l3] (.ref 1000 :: st) X Q := w_aload_n (by rfl) rfl (by decide)
set_option maxRecDepth 100000 in
theorem s222_547 {l0 l1 l2 : Value} {z1 : Int} : WP d 222 547 [l0, l1, l2, vI z1] (st) X Q = WP d 222 548 [l0, l1, l2, vI z1] (vI z1 :: st) X Q := w_iload_n (by rfl) rfl
set_option maxRecDepth 100000 in
theorem s222_548 {l0 l1 l2 l3 : Value}  : WP d 222 548 [l0, l1, l2, l3] (st) X Q = WP d 222 549 [l0, l1, l2, l3] (vI (1) :: st) X Q := w_iconst (by rfl)
set_option maxRecDepth 100000 in
theorem s222_549 {l0 l1 l2 l3 : Value} {z1 : Int} {z2 : Int} : WP d 222 549 [l0, l1, l2, l3] (vI z2 :: vI z1 :: st) X Q = WP d 222 550 [l0, l1, l2, l3] (vI (z1 + z2) :: st) X Q := w_iadd (by rfl)
set_option maxRecDepth 100000 in
theorem s222_550 {l0 l1 l2 l3 : Value} {j1 : Int} (hj : 0 ≤ j1 ∧ j1 < (L : Int)) (hm : L ≤ 2147483647) : WP d 222 550 [l0, l1, l2, l3] (vI j1 :: .ref 1000 :: st) (N, L, M) Q = WP d 222 551 [l0, l1, l2, l3] (M 1000 j1.toNat :: st) (N, L, M) Q := w_ialdS (by rfl) hj hm
set_option maxRecDepth 100000 in
theorem s222_551 {l1 l2 l3 : Value}  : WP d 222 551 [.ref 1000, l1, l2, l3] (st) X Q = WP d 222 552 [.ref 1000, l1, l2, l3] (.ref 1000 :: st) X Q := w_aload_n (by rfl) rfl (by decide)
set_option maxRecDepth 100000 in
theorem s222_552 {l0 l1 l2 : Value} {z1 : Int} : WP d 222 552 [l0, l1, l2, vI z1] (st) X Q = WP d 222 553 [l0, l1, l2, vI z1] (vI z1 :: st) X Q := w_iload_n (by rfl) rfl
set_option maxRecDepth 100000 in
theorem s222_553 {l0 l1 l2 l3 : Value}  : WP d 222 553 [l0, l1, l2, l3] (st) X Q = WP d 222 554 [l0, l1, l2, l3] (vI (2) :: st) X Q := w_iconst (by rfl)
set_option maxRecDepth 100000 in
theorem s222_554 {l0 l1 l2 l3 : Value} {z1 : Int} {z2 : Int} : WP d 222 554 [l0, l1, l2, l3] (vI z2 :: vI z1 :: st) X Q = WP d 222 555 [l0, l1, l2, l3] (vI (z1 + z2) :: st) X Q := w_iadd (by rfl)
set_option maxRecDepth 100000 in
theorem s222_555 {l0 l1 l2 l3 : Value} {j1 : Int} (hj : 0 ≤ j1 ∧ j1 < (L : Int)) (hm : L ≤ 2147483647) : WP d 222 555 [l0, l1, l2, l3] (vI j1 :: .ref 1000 :: st) (N, L, M) Q = WP d 222 556 [l0, l1, l2, l3] (M 1000 j1.toNat :: st) (N, L, M) Q := w_ialdS (by rfl) hj hm
set_option maxRecDepth 100000 in
theorem c222_556 {l0 l1 l2 l3 : Value} {x0 : Value} {z1 : Int} {z2 : Int} {r : Int} {X' : q_H} (hN : 82 < N) (hS : Sp d 162 [.ref 82, vI z1, vI z2] (N, L, M) (some (vI r)) X') : WP d 222 556 [l0, l1, l2, l3] (vI z2 :: vI z1 :: .ref 82 :: x0 :: []) (N, L, M) Q = WP d 222 559 [l0, l1, l2, l3] (vI r :: x0 :: []) X' Q := w_callv (vs := [vI z1, vI z2]) (by rfl) (by rfl) rfl (Nat.le_of_ble_eq_true rfl) (kd := 9) (by rfl) (by decide) (Or.inl hN) (by rfl) hS
set_option maxRecDepth 100000 in
theorem s222_559 {l0 l1 l2 l3 : Value} {z1 : Int} {z2 : Int} (h1 : -2147483648 ≤ z1 ∧ z1 ≤ 2147483647) (h2 : -2147483648 ≤ z2 ∧ z2 ≤ 2147483647) : WP d 222 559 [l0, l1, l2, l3] (vI z2 :: vI z1 :: st) X Q = if z1 = z2 then WP d 222 1421 [l0, l1, l2, l3] (st) X Q else WP d 222 562 [l0, l1, l2, l3] (st) X Q := w_icmpeq (by rfl) (by decide) h1 h2
set_option maxRecDepth 100000 in
theorem s222_559b {l0 l1 l2 l3 : Value} {P R : Prop} [Decidable P] [Decidable R] : WP d 222 559 [l0, l1, l2, l3] (vI (bI R) :: vI (bI P) :: st) X Q = if (P ↔ R) then WP d 222 1421 [l0, l1, l2, l3] (st) X Q else WP d 222 562 [l0, l1, l2, l3] (st) X Q := w_icmpeqb (by rfl) (by decide)
set_option maxRecDepth 100000 in
theorem s222_562 {l0 l1 l2 l3 : Value}  : WP d 222 562 [l0, l1, l2, l3] (st) X Q = WP d 222 563 [l0, l1, l2, l3] (vI (0) :: st) X Q := w_iconst (by rfl)
set_option maxRecDepth 100000 in
theorem s222_563 {l0 l1 l2 l3 : Value} {z1 : Int} (hz : z1 = 0 ∨ z1 = 1) : WP d 222 563 [l0, l1, l2, l3] (vI z1 :: []) X Q = Q (some (vI z1)) X := w_iretz (by rfl) (by rfl) (nb_bool hz)
set_option maxRecDepth 100000 in
theorem s222_563b {l0 l1 l2 l3 : Value} {P : Prop} [Decidable P] : WP d 222 563 [l0, l1, l2, l3] (vI (bI P) :: []) X Q = Q (some (vI (bI P))) X := w_iretz (by rfl) (by rfl) (nb_bool (bI_01 P))
set_option maxRecDepth 100000 in
theorem s222_564 {l0 l2 l3 : Value}  : WP d 222 564 [l0, .ref 0, l2, l3] (st) X Q = WP d 222 565 [l0, .ref 0, l2, l3] (.ref 0 :: st) X Q := w_aload_n (by rfl) rfl (by decide)
set_option maxRecDepth 100000 in
theorem s222_565 {l1 l2 l3 : Value}  : WP d 222 565 [.ref 1000, l1, l2, l3] (st) X Q = WP d 222 566 [.ref 1000, l1, l2, l3] (.ref 1000 :: st) X Q := w_aload_n (by rfl) rfl (by decide)
set_option maxRecDepth 100000 in
theorem s222_566 {l0 l1 l2 : Value} {z1 : Int} : WP d 222 566 [l0, l1, l2, vI z1] (st) X Q = WP d 222 567 [l0, l1, l2, vI z1] (vI z1 :: st) X Q := w_iload_n (by rfl) rfl
set_option maxRecDepth 100000 in
theorem s222_567 {l0 l1 l2 l3 : Value}  : WP d 222 567 [l0, l1, l2, l3] (st) X Q = WP d 222 568 [l0, l1, l2, l3] (vI (1) :: st) X Q := w_iconst (by rfl)
set_option maxRecDepth 100000 in
theorem s222_568 {l0 l1 l2 l3 : Value} {z1 : Int} {z2 : Int} : WP d 222 568 [l0, l1, l2, l3] (vI z2 :: vI z1 :: st) X Q = WP d 222 569 [l0, l1, l2, l3] (vI (z1 + z2) :: st) X Q := w_iadd (by rfl)
set_option maxRecDepth 100000 in
theorem s222_569 {l0 l1 l2 l3 : Value} {j1 : Int} (hj : 0 ≤ j1 ∧ j1 < (L : Int)) (hm : L ≤ 2147483647) : WP d 222 569 [l0, l1, l2, l3] (vI j1 :: .ref 1000 :: st) (N, L, M) Q = WP d 222 570 [l0, l1, l2, l3] (M 1000 j1.toNat :: st) (N, L, M) Q := w_ialdS (by rfl) hj hm
set_option maxRecDepth 100000 in
theorem s222_570 {l1 l2 l3 : Value}  : WP d 222 570 [.ref 1000, l1, l2, l3] (st) X Q = WP d 222 571 [.ref 1000, l1, l2, l3] (.ref 1000 :: st) X Q := w_aload_n (by rfl) rfl (by decide)
set_option maxRecDepth 100000 in
theorem s222_571 {l0 l1 l2 : Value} {z1 : Int} : WP d 222 571 [l0, l1, l2, vI z1] (st) X Q = WP d 222 572 [l0, l1, l2, vI z1] (vI z1 :: st) X Q := w_iload_n (by rfl) rfl
set_option maxRecDepth 100000 in
theorem s222_572 {l0 l1 l2 l3 : Value}  : WP d 222 572 [l0, l1, l2, l3] (st) X Q = WP d 222 573 [l0, l1, l2, l3] (vI (2) :: st) X Q := w_iconst (by rfl)
set_option maxRecDepth 100000 in
theorem s222_573 {l0 l1 l2 l3 : Value} {z1 : Int} {z2 : Int} : WP d 222 573 [l0, l1, l2, l3] (vI z2 :: vI z1 :: st) X Q = WP d 222 574 [l0, l1, l2, l3] (vI (z1 + z2) :: st) X Q := w_iadd (by rfl)
set_option maxRecDepth 100000 in
theorem s222_574 {l0 l1 l2 l3 : Value} {j1 : Int} (hj : 0 ≤ j1 ∧ j1 < (L : Int)) (hm : L ≤ 2147483647) : WP d 222 574 [l0, l1, l2, l3] (vI j1 :: .ref 1000 :: st) (N, L, M) Q = WP d 222 575 [l0, l1, l2, l3] (M 1000 j1.toNat :: st) (N, L, M) Q := w_ialdS (by rfl) hj hm
set_option maxRecDepth 100000 in
theorem c222_575 {l0 l1 l2 l3 : Value} {z1 : Int} {z2 : Int} {r : Int} {X' : q_H} (hN : 0 < N) (hS : Sp d 66 [.ref 0, vI z1, vI z2] (N, L, M) (some (vI r)) X') : WP d 222 575 [l0, l1, l2, l3] (vI z2 :: vI z1 :: .ref 0 :: []) (N, L, M) Q = WP d 222 578 [l0, l1, l2, l3] (vI r :: []) X' Q := w_callv (vs := [vI z1, vI z2]) (by rfl) (by rfl) rfl (Nat.le_of_ble_eq_true rfl) (kd := 8) (by rfl) (by decide) (Or.inl hN) (by rfl) hS
set_option maxRecDepth 100000 in
theorem s222_578 {l0 l1 l3 : Value}  : WP d 222 578 [l0, l1, .ref 82, l3] (st) X Q = WP d 222 579 [l0, l1, .ref 82, l3] (.ref 82 :: st) X Q := w_aload_n (by rfl) rfl (by decide)
set_option maxRecDepth 100000 in
theorem s222_579 {l1 l2 l3 : Value}  : WP d 222 579 [.ref 1000, l1, l2, l3] (st) X Q = WP d 222 580 [.ref 1000, l1, l2, l3] (.ref 1000 :: st) X Q := w_aload_n (by rfl) rfl (by decide)
set_option maxRecDepth 100000 in
theorem s222_580 {l0 l1 l2 : Value} {z1 : Int} : WP d 222 580 [l0, l1, l2, vI z1] (st) X Q = WP d 222 581 [l0, l1, l2, vI z1] (vI z1 :: st) X Q := w_iload_n (by rfl) rfl
set_option maxRecDepth 100000 in
theorem s222_581 {l0 l1 l2 l3 : Value}  : WP d 222 581 [l0, l1, l2, l3] (st) X Q = WP d 222 582 [l0, l1, l2, l3] (vI (1) :: st) X Q := w_iconst (by rfl)
set_option maxRecDepth 100000 in
theorem s222_582 {l0 l1 l2 l3 : Value} {z1 : Int} {z2 : Int} : WP d 222 582 [l0, l1, l2, l3] (vI z2 :: vI z1 :: st) X Q = WP d 222 583 [l0, l1, l2, l3] (vI (z1 + z2) :: st) X Q := w_iadd (by rfl)
set_option maxRecDepth 100000 in
theorem s222_583 {l0 l1 l2 l3 : Value} {j1 : Int} (hj : 0 ≤ j1 ∧ j1 < (L : Int)) (hm : L ≤ 2147483647) : WP d 222 583 [l0, l1, l2, l3] (vI j1 :: .ref 1000 :: st) (N, L, M) Q = WP d 222 584 [l0, l1, l2, l3] (M 1000 j1.toNat :: st) (N, L, M) Q := w_ialdS (by rfl) hj hm
set_option maxRecDepth 100000 in
theorem s222_584 {l1 l2 l3 : Value}  : WP d 222 584 [.ref 1000, l1, l2, l3] (st) X Q = WP d 222 585 [.ref 1000, l1, l2, l3] (.ref 1000 :: st) X Q := w_aload_n (by rfl) rfl (by decide)
set_option maxRecDepth 100000 in
theorem s222_585 {l0 l1 l2 : Value} {z1 : Int} : WP d 222 585 [l0, l1, l2, vI z1] (st) X Q = WP d 222 586 [l0, l1, l2, vI z1] (vI z1 :: st) X Q := w_iload_n (by rfl) rfl
set_option maxRecDepth 100000 in
theorem s222_586 {l0 l1 l2 l3 : Value}  : WP d 222 586 [l0, l1, l2, l3] (st) X Q = WP d 222 587 [l0, l1, l2, l3] (vI (2) :: st) X Q := w_iconst (by rfl)
set_option maxRecDepth 100000 in
theorem s222_587 {l0 l1 l2 l3 : Value} {z1 : Int} {z2 : Int} : WP d 222 587 [l0, l1, l2, l3] (vI z2 :: vI z1 :: st) X Q = WP d 222 588 [l0, l1, l2, l3] (vI (z1 + z2) :: st) X Q := w_iadd (by rfl)
set_option maxRecDepth 100000 in
theorem s222_588 {l0 l1 l2 l3 : Value} {j1 : Int} (hj : 0 ≤ j1 ∧ j1 < (L : Int)) (hm : L ≤ 2147483647) : WP d 222 588 [l0, l1, l2, l3] (vI j1 :: .ref 1000 :: st) (N, L, M) Q = WP d 222 589 [l0, l1, l2, l3] (M 1000 j1.toNat :: st) (N, L, M) Q := w_ialdS (by rfl) hj hm
set_option maxRecDepth 100000 in
theorem c222_589 {l0 l1 l2 l3 : Value} {x0 : Value} {z1 : Int} {z2 : Int} {r : Int} {X' : q_H} (hN : 82 < N) (hS : Sp d 163 [.ref 82, vI z1, vI z2] (N, L, M) (some (vI r)) X') : WP d 222 589 [l0, l1, l2, l3] (vI z2 :: vI z1 :: .ref 82 :: x0 :: []) (N, L, M) Q = WP d 222 592 [l0, l1, l2, l3] (vI r :: x0 :: []) X' Q := w_callv (vs := [vI z1, vI z2]) (by rfl) (by rfl) rfl (Nat.le_of_ble_eq_true rfl) (kd := 9) (by rfl) (by decide) (Or.inl hN) (by rfl) hS
set_option maxRecDepth 100000 in
theorem s222_592 {l0 l1 l2 l3 : Value} {z1 : Int} {z2 : Int} (h1 : -2147483648 ≤ z1 ∧ z1 ≤ 2147483647) (h2 : -2147483648 ≤ z2 ∧ z2 ≤ 2147483647) : WP d 222 592 [l0, l1, l2, l3] (vI z2 :: vI z1 :: st) X Q = if z1 = z2 then WP d 222 1421 [l0, l1, l2, l3] (st) X Q else WP d 222 595 [l0, l1, l2, l3] (st) X Q := w_icmpeq (by rfl) (by decide) h1 h2
set_option maxRecDepth 100000 in
theorem s222_592b {l0 l1 l2 l3 : Value} {P R : Prop} [Decidable P] [Decidable R] : WP d 222 592 [l0, l1, l2, l3] (vI (bI R) :: vI (bI P) :: st) X Q = if (P ↔ R) then WP d 222 1421 [l0, l1, l2, l3] (st) X Q else WP d 222 595 [l0, l1, l2, l3] (st) X Q := w_icmpeqb (by rfl) (by decide)
set_option maxRecDepth 100000 in
theorem s222_595 {l0 l1 l2 l3 : Value}  : WP d 222 595 [l0, l1, l2, l3] (st) X Q = WP d 222 596 [l0, l1, l2, l3] (vI (0) :: st) X Q := w_iconst (by rfl)
set_option maxRecDepth 100000 in
theorem s222_596 {l0 l1 l2 l3 : Value} {z1 : Int} (hz : z1 = 0 ∨ z1 = 1) : WP d 222 596 [l0, l1, l2, l3] (vI z1 :: []) X Q = Q (some (vI z1)) X := w_iretz (by rfl) (by rfl) (nb_bool hz)
set_option maxRecDepth 100000 in
theorem s222_596b {l0 l1 l2 l3 : Value} {P : Prop} [Decidable P] : WP d 222 596 [l0, l1, l2, l3] (vI (bI P) :: []) X Q = Q (some (vI (bI P))) X := w_iretz (by rfl) (by rfl) (nb_bool (bI_01 P))
set_option maxRecDepth 100000 in
theorem s222_597 {l0 l2 l3 : Value}  : WP d 222 597 [l0, .ref 0, l2, l3] (st) X Q = WP d 222 598 [l0, .ref 0, l2, l3] (.ref 0 :: st) X Q := w_aload_n (by rfl) rfl (by decide)
set_option maxRecDepth 100000 in
theorem c222_598 {l0 l1 l2 l3 : Value} {r : Int} {X' : q_H} (hN : 0 < N) (hS : Sp d 67 [.ref 0] (N, L, M) (some (vI r)) X') : WP d 222 598 [l0, l1, l2, l3] (.ref 0 :: []) (N, L, M) Q = WP d 222 601 [l0, l1, l2, l3] (vI r :: []) X' Q := w_callv (vs := []) (by rfl) (by rfl) rfl (Nat.le_of_ble_eq_true rfl) (kd := 8) (by rfl) (by decide) (Or.inl hN) (by rfl) hS
set_option maxRecDepth 100000 in
theorem s222_601 {l0 l1 l3 : Value}  : WP d 222 601 [l0, l1, .ref 82, l3] (st) X Q = WP d 222 602 [l0, l1, .ref 82, l3] (.ref 82 :: st) X Q := w_aload_n (by rfl) rfl (by decide)
set_option maxRecDepth 100000 in
theorem c222_602 {l0 l1 l2 l3 : Value} {x0 : Value} {r : Int} {X' : q_H} (hN : 82 < N) (hS : Sp d 164 [.ref 82] (N, L, M) (some (vI r)) X') : WP d 222 602 [l0, l1, l2, l3] (.ref 82 :: x0 :: []) (N, L, M) Q = WP d 222 605 [l0, l1, l2, l3] (vI r :: x0 :: []) X' Q := w_callv (vs := []) (by rfl) (by rfl) rfl (Nat.le_of_ble_eq_true rfl) (kd := 9) (by rfl) (by decide) (Or.inl hN) (by rfl) hS
set_option maxRecDepth 100000 in
theorem s222_605 {l0 l1 l2 l3 : Value} {z1 : Int} {z2 : Int} (h1 : -2147483648 ≤ z1 ∧ z1 ≤ 2147483647) (h2 : -2147483648 ≤ z2 ∧ z2 ≤ 2147483647) : WP d 222 605 [l0, l1, l2, l3] (vI z2 :: vI z1 :: st) X Q = if z1 = z2 then WP d 222 1421 [l0, l1, l2, l3] (st) X Q else WP d 222 608 [l0, l1, l2, l3] (st) X Q := w_icmpeq (by rfl) (by decide) h1 h2
set_option maxRecDepth 100000 in
theorem s222_605b {l0 l1 l2 l3 : Value} {P R : Prop} [Decidable P] [Decidable R] : WP d 222 605 [l0, l1, l2, l3] (vI (bI R) :: vI (bI P) :: st) X Q = if (P ↔ R) then WP d 222 1421 [l0, l1, l2, l3] (st) X Q else WP d 222 608 [l0, l1, l2, l3] (st) X Q := w_icmpeqb (by rfl) (by decide)
set_option maxRecDepth 100000 in
theorem s222_608 {l0 l1 l2 l3 : Value}  : WP d 222 608 [l0, l1, l2, l3] (st) X Q = WP d 222 609 [l0, l1, l2, l3] (vI (0) :: st) X Q := w_iconst (by rfl)
set_option maxRecDepth 100000 in
theorem s222_609 {l0 l1 l2 l3 : Value} {z1 : Int} (hz : z1 = 0 ∨ z1 = 1) : WP d 222 609 [l0, l1, l2, l3] (vI z1 :: []) X Q = Q (some (vI z1)) X := w_iretz (by rfl) (by rfl) (nb_bool hz)
set_option maxRecDepth 100000 in
theorem s222_609b {l0 l1 l2 l3 : Value} {P : Prop} [Decidable P] : WP d 222 609 [l0, l1, l2, l3] (vI (bI P) :: []) X Q = Q (some (vI (bI P))) X := w_iretz (by rfl) (by rfl) (nb_bool (bI_01 P))
set_option maxRecDepth 100000 in
theorem s222_610 {l0 l2 l3 : Value}  : WP d 222 610 [l0, .ref 0, l2, l3] (st) X Q = WP d 222 611 [l0, .ref 0, l2, l3] (.ref 0 :: st) X Q := w_aload_n (by rfl) rfl (by decide)
set_option maxRecDepth 100000 in
theorem s222_611 {l1 l2 l3 : Value}  : WP d 222 611 [.ref 1000, l1, l2, l3] (st) X Q = WP d 222 612 [.ref 1000, l1, l2, l3] (.ref 1000 :: st) X Q := w_aload_n (by rfl) rfl (by decide)
set_option maxRecDepth 100000 in
theorem s222_612 {l0 l1 l2 : Value} {z1 : Int} : WP d 222 612 [l0, l1, l2, vI z1] (st) X Q = WP d 222 613 [l0, l1, l2, vI z1] (vI z1 :: st) X Q := w_iload_n (by rfl) rfl
set_option maxRecDepth 100000 in
theorem s222_613 {l0 l1 l2 l3 : Value}  : WP d 222 613 [l0, l1, l2, l3] (st) X Q = WP d 222 614 [l0, l1, l2, l3] (vI (1) :: st) X Q := w_iconst (by rfl)
set_option maxRecDepth 100000 in
theorem s222_614 {l0 l1 l2 l3 : Value} {z1 : Int} {z2 : Int} : WP d 222 614 [l0, l1, l2, l3] (vI z2 :: vI z1 :: st) X Q = WP d 222 615 [l0, l1, l2, l3] (vI (z1 + z2) :: st) X Q := w_iadd (by rfl)
set_option maxRecDepth 100000 in
theorem s222_615 {l0 l1 l2 l3 : Value} {j1 : Int} (hj : 0 ≤ j1 ∧ j1 < (L : Int)) (hm : L ≤ 2147483647) : WP d 222 615 [l0, l1, l2, l3] (vI j1 :: .ref 1000 :: st) (N, L, M) Q = WP d 222 616 [l0, l1, l2, l3] (M 1000 j1.toNat :: st) (N, L, M) Q := w_ialdS (by rfl) hj hm
set_option maxRecDepth 100000 in
theorem s222_616 {l1 l2 l3 : Value}  : WP d 222 616 [.ref 1000, l1, l2, l3] (st) X Q = WP d 222 617 [.ref 1000, l1, l2, l3] (.ref 1000 :: st) X Q := w_aload_n (by rfl) rfl (by decide)
set_option maxRecDepth 100000 in
theorem s222_617 {l0 l1 l2 : Value} {z1 : Int} : WP d 222 617 [l0, l1, l2, vI z1] (st) X Q = WP d 222 618 [l0, l1, l2, vI z1] (vI z1 :: st) X Q := w_iload_n (by rfl) rfl
set_option maxRecDepth 100000 in
theorem s222_618 {l0 l1 l2 l3 : Value}  : WP d 222 618 [l0, l1, l2, l3] (st) X Q = WP d 222 619 [l0, l1, l2, l3] (vI (2) :: st) X Q := w_iconst (by rfl)
set_option maxRecDepth 100000 in
theorem s222_619 {l0 l1 l2 l3 : Value} {z1 : Int} {z2 : Int} : WP d 222 619 [l0, l1, l2, l3] (vI z2 :: vI z1 :: st) X Q = WP d 222 620 [l0, l1, l2, l3] (vI (z1 + z2) :: st) X Q := w_iadd (by rfl)
set_option maxRecDepth 100000 in
theorem s222_620 {l0 l1 l2 l3 : Value} {j1 : Int} (hj : 0 ≤ j1 ∧ j1 < (L : Int)) (hm : L ≤ 2147483647) : WP d 222 620 [l0, l1, l2, l3] (vI j1 :: .ref 1000 :: st) (N, L, M) Q = WP d 222 621 [l0, l1, l2, l3] (M 1000 j1.toNat :: st) (N, L, M) Q := w_ialdS (by rfl) hj hm
set_option maxRecDepth 100000 in
theorem c222_621 {l0 l1 l2 l3 : Value} {z1 : Int} {z2 : Int} {r : Int} {X' : q_H} (hN : 0 < N) (hS : Sp d 68 [.ref 0, vI z1, vI z2] (N, L, M) (some (vI r)) X') : WP d 222 621 [l0, l1, l2, l3] (vI z2 :: vI z1 :: .ref 0 :: []) (N, L, M) Q = WP d 222 624 [l0, l1, l2, l3] (vI r :: []) X' Q := w_callv (vs := [vI z1, vI z2]) (by rfl) (by rfl) rfl (Nat.le_of_ble_eq_true rfl) (kd := 8) (by rfl) (by decide) (Or.inl hN) (by rfl) hS
set_option maxRecDepth 100000 in
theorem s222_624 {l0 l1 l3 : Value}  : WP d 222 624 [l0, l1, .ref 82, l3] (st) X Q = WP d 222 625 [l0, l1, .ref 82, l3] (.ref 82 :: st) X Q := w_aload_n (by rfl) rfl (by decide)
set_option maxRecDepth 100000 in
theorem s222_625 {l1 l2 l3 : Value}  : WP d 222 625 [.ref 1000, l1, l2, l3] (st) X Q = WP d 222 626 [.ref 1000, l1, l2, l3] (.ref 1000 :: st) X Q := w_aload_n (by rfl) rfl (by decide)
set_option maxRecDepth 100000 in
theorem s222_626 {l0 l1 l2 : Value} {z1 : Int} : WP d 222 626 [l0, l1, l2, vI z1] (st) X Q = WP d 222 627 [l0, l1, l2, vI z1] (vI z1 :: st) X Q := w_iload_n (by rfl) rfl
set_option maxRecDepth 100000 in
theorem s222_627 {l0 l1 l2 l3 : Value}  : WP d 222 627 [l0, l1, l2, l3] (st) X Q = WP d 222 628 [l0, l1, l2, l3] (vI (1) :: st) X Q := w_iconst (by rfl)
set_option maxRecDepth 100000 in
theorem s222_628 {l0 l1 l2 l3 : Value} {z1 : Int} {z2 : Int} : WP d 222 628 [l0, l1, l2, l3] (vI z2 :: vI z1 :: st) X Q = WP d 222 629 [l0, l1, l2, l3] (vI (z1 + z2) :: st) X Q := w_iadd (by rfl)
set_option maxRecDepth 100000 in
theorem s222_629 {l0 l1 l2 l3 : Value} {j1 : Int} (hj : 0 ≤ j1 ∧ j1 < (L : Int)) (hm : L ≤ 2147483647) : WP d 222 629 [l0, l1, l2, l3] (vI j1 :: .ref 1000 :: st) (N, L, M) Q = WP d 222 630 [l0, l1, l2, l3] (M 1000 j1.toNat :: st) (N, L, M) Q := w_ialdS (by rfl) hj hm
set_option maxRecDepth 100000 in
theorem s222_630 {l1 l2 l3 : Value}  : WP d 222 630 [.ref 1000, l1, l2, l3] (st) X Q = WP d 222 631 [.ref 1000, l1, l2, l3] (.ref 1000 :: st) X Q := w_aload_n (by rfl) rfl (by decide)
set_option maxRecDepth 100000 in
theorem s222_631 {l0 l1 l2 : Value} {z1 : Int} : WP d 222 631 [l0, l1, l2, vI z1] (st) X Q = WP d 222 632 [l0, l1, l2, vI z1] (vI z1 :: st) X Q := w_iload_n (by rfl) rfl
set_option maxRecDepth 100000 in
theorem s222_632 {l0 l1 l2 l3 : Value}  : WP d 222 632 [l0, l1, l2, l3] (st) X Q = WP d 222 633 [l0, l1, l2, l3] (vI (2) :: st) X Q := w_iconst (by rfl)
set_option maxRecDepth 100000 in
theorem s222_633 {l0 l1 l2 l3 : Value} {z1 : Int} {z2 : Int} : WP d 222 633 [l0, l1, l2, l3] (vI z2 :: vI z1 :: st) X Q = WP d 222 634 [l0, l1, l2, l3] (vI (z1 + z2) :: st) X Q := w_iadd (by rfl)
set_option maxRecDepth 100000 in
theorem s222_634 {l0 l1 l2 l3 : Value} {j1 : Int} (hj : 0 ≤ j1 ∧ j1 < (L : Int)) (hm : L ≤ 2147483647) : WP d 222 634 [l0, l1, l2, l3] (vI j1 :: .ref 1000 :: st) (N, L, M) Q = WP d 222 635 [l0, l1, l2, l3] (M 1000 j1.toNat :: st) (N, L, M) Q := w_ialdS (by rfl) hj hm
set_option maxRecDepth 100000 in
theorem c222_635 {l0 l1 l2 l3 : Value} {x0 : Value} {z1 : Int} {z2 : Int} {r : Int} {X' : q_H} (hN : 82 < N) (hS : Sp d 167 [.ref 82, vI z1, vI z2] (N, L, M) (some (vI r)) X') : WP d 222 635 [l0, l1, l2, l3] (vI z2 :: vI z1 :: .ref 82 :: x0 :: []) (N, L, M) Q = WP d 222 638 [l0, l1, l2, l3] (vI r :: x0 :: []) X' Q := w_callv (vs := [vI z1, vI z2]) (by rfl) (by rfl) rfl (Nat.le_of_ble_eq_true rfl) (kd := 9) (by rfl) (by decide) (Or.inl hN) (by rfl) hS
set_option maxRecDepth 100000 in
theorem s222_638 {l0 l1 l2 l3 : Value} {z1 : Int} {z2 : Int} (h1 : -2147483648 ≤ z1 ∧ z1 ≤ 2147483647) (h2 : -2147483648 ≤ z2 ∧ z2 ≤ 2147483647) : WP d 222 638 [l0, l1, l2, l3] (vI z2 :: vI z1 :: st) X Q = if z1 = z2 then WP d 222 1421 [l0, l1, l2, l3] (st) X Q else WP d 222 641 [l0, l1, l2, l3] (st) X Q := w_icmpeq (by rfl) (by decide) h1 h2
set_option maxRecDepth 100000 in
theorem s222_638b {l0 l1 l2 l3 : Value} {P R : Prop} [Decidable P] [Decidable R] : WP d 222 638 [l0, l1, l2, l3] (vI (bI R) :: vI (bI P) :: st) X Q = if (P ↔ R) then WP d 222 1421 [l0, l1, l2, l3] (st) X Q else WP d 222 641 [l0, l1, l2, l3] (st) X Q := w_icmpeqb (by rfl) (by decide)
set_option maxRecDepth 100000 in
theorem s222_641 {l0 l1 l2 l3 : Value}  : WP d 222 641 [l0, l1, l2, l3] (st) X Q = WP d 222 642 [l0, l1, l2, l3] (vI (0) :: st) X Q := w_iconst (by rfl)
set_option maxRecDepth 100000 in
theorem s222_642 {l0 l1 l2 l3 : Value} {z1 : Int} (hz : z1 = 0 ∨ z1 = 1) : WP d 222 642 [l0, l1, l2, l3] (vI z1 :: []) X Q = Q (some (vI z1)) X := w_iretz (by rfl) (by rfl) (nb_bool hz)
set_option maxRecDepth 100000 in
theorem s222_642b {l0 l1 l2 l3 : Value} {P : Prop} [Decidable P] : WP d 222 642 [l0, l1, l2, l3] (vI (bI P) :: []) X Q = Q (some (vI (bI P))) X := w_iretz (by rfl) (by rfl) (nb_bool (bI_01 P))
set_option maxRecDepth 100000 in
theorem s222_643 {l0 l2 l3 : Value}  : WP d 222 643 [l0, .ref 0, l2, l3] (st) X Q = WP d 222 644 [l0, .ref 0, l2, l3] (.ref 0 :: st) X Q := w_aload_n (by rfl) rfl (by decide)
set_option maxRecDepth 100000 in
theorem s222_644 {l1 l2 l3 : Value}  : WP d 222 644 [.ref 1000, l1, l2, l3] (st) X Q = WP d 222 645 [.ref 1000, l1, l2, l3] (.ref 1000 :: st) X Q := w_aload_n (by rfl) rfl (by decide)
set_option maxRecDepth 100000 in
theorem s222_645 {l0 l1 l2 : Value} {z1 : Int} : WP d 222 645 [l0, l1, l2, vI z1] (st) X Q = WP d 222 646 [l0, l1, l2, vI z1] (vI z1 :: st) X Q := w_iload_n (by rfl) rfl
set_option maxRecDepth 100000 in
theorem s222_646 {l0 l1 l2 l3 : Value}  : WP d 222 646 [l0, l1, l2, l3] (st) X Q = WP d 222 647 [l0, l1, l2, l3] (vI (1) :: st) X Q := w_iconst (by rfl)
set_option maxRecDepth 100000 in
theorem s222_647 {l0 l1 l2 l3 : Value} {z1 : Int} {z2 : Int} : WP d 222 647 [l0, l1, l2, l3] (vI z2 :: vI z1 :: st) X Q = WP d 222 648 [l0, l1, l2, l3] (vI (z1 + z2) :: st) X Q := w_iadd (by rfl)
set_option maxRecDepth 100000 in
theorem s222_648 {l0 l1 l2 l3 : Value} {j1 : Int} (hj : 0 ≤ j1 ∧ j1 < (L : Int)) (hm : L ≤ 2147483647) : WP d 222 648 [l0, l1, l2, l3] (vI j1 :: .ref 1000 :: st) (N, L, M) Q = WP d 222 649 [l0, l1, l2, l3] (M 1000 j1.toNat :: st) (N, L, M) Q := w_ialdS (by rfl) hj hm
set_option maxRecDepth 100000 in
theorem s222_649 {l1 l2 l3 : Value}  : WP d 222 649 [.ref 1000, l1, l2, l3] (st) X Q = WP d 222 650 [.ref 1000, l1, l2, l3] (.ref 1000 :: st) X Q := w_aload_n (by rfl) rfl (by decide)
set_option maxRecDepth 100000 in
theorem s222_650 {l0 l1 l2 : Value} {z1 : Int} : WP d 222 650 [l0, l1, l2, vI z1] (st) X Q = WP d 222 651 [l0, l1, l2, vI z1] (vI z1 :: st) X Q := w_iload_n (by rfl) rfl
set_option maxRecDepth 100000 in
theorem s222_651 {l0 l1 l2 l3 : Value}  : WP d 222 651 [l0, l1, l2, l3] (st) X Q = WP d 222 652 [l0, l1, l2, l3] (vI (2) :: st) X Q := w_iconst (by rfl)
set_option maxRecDepth 100000 in
theorem s222_652 {l0 l1 l2 l3 : Value} {z1 : Int} {z2 : Int} : WP d 222 652 [l0, l1, l2, l3] (vI z2 :: vI z1 :: st) X Q = WP d 222 653 [l0, l1, l2, l3] (vI (z1 + z2) :: st) X Q := w_iadd (by rfl)
set_option maxRecDepth 100000 in
theorem s222_653 {l0 l1 l2 l3 : Value} {j1 : Int} (hj : 0 ≤ j1 ∧ j1 < (L : Int)) (hm : L ≤ 2147483647) : WP d 222 653 [l0, l1, l2, l3] (vI j1 :: .ref 1000 :: st) (N, L, M) Q = WP d 222 654 [l0, l1, l2, l3] (M 1000 j1.toNat :: st) (N, L, M) Q := w_ialdS (by rfl) hj hm
set_option maxRecDepth 100000 in
theorem c222_654 {l0 l1 l2 l3 : Value} {z1 : Int} {z2 : Int} {r : Int} {X' : q_H} (hN : 0 < N) (hS : Sp d 69 [.ref 0, vI z1, vI z2] (N, L, M) (some (vI r)) X') : WP d 222 654 [l0, l1, l2, l3] (vI z2 :: vI z1 :: .ref 0 :: []) (N, L, M) Q = WP d 222 657 [l0, l1, l2, l3] (vI r :: []) X' Q := w_callv (vs := [vI z1, vI z2]) (by rfl) (by rfl) rfl (Nat.le_of_ble_eq_true rfl) (kd := 8) (by rfl) (by decide) (Or.inl hN) (by rfl) hS
set_option maxRecDepth 100000 in
theorem s222_657 {l0 l1 l3 : Value}  : WP d 222 657 [l0, l1, .ref 82, l3] (st) X Q = WP d 222 658 [l0, l1, .ref 82, l3] (.ref 82 :: st) X Q := w_aload_n (by rfl) rfl (by decide)
set_option maxRecDepth 100000 in
theorem s222_658 {l1 l2 l3 : Value}  : WP d 222 658 [.ref 1000, l1, l2, l3] (st) X Q = WP d 222 659 [.ref 1000, l1, l2, l3] (.ref 1000 :: st) X Q := w_aload_n (by rfl) rfl (by decide)
set_option maxRecDepth 100000 in
theorem s222_659 {l0 l1 l2 : Value} {z1 : Int} : WP d 222 659 [l0, l1, l2, vI z1] (st) X Q = WP d 222 660 [l0, l1, l2, vI z1] (vI z1 :: st) X Q := w_iload_n (by rfl) rfl
set_option maxRecDepth 100000 in
theorem s222_660 {l0 l1 l2 l3 : Value}  : WP d 222 660 [l0, l1, l2, l3] (st) X Q = WP d 222 661 [l0, l1, l2, l3] (vI (1) :: st) X Q := w_iconst (by rfl)
set_option maxRecDepth 100000 in
theorem s222_661 {l0 l1 l2 l3 : Value} {z1 : Int} {z2 : Int} : WP d 222 661 [l0, l1, l2, l3] (vI z2 :: vI z1 :: st) X Q = WP d 222 662 [l0, l1, l2, l3] (vI (z1 + z2) :: st) X Q := w_iadd (by rfl)
set_option maxRecDepth 100000 in
theorem s222_662 {l0 l1 l2 l3 : Value} {j1 : Int} (hj : 0 ≤ j1 ∧ j1 < (L : Int)) (hm : L ≤ 2147483647) : WP d 222 662 [l0, l1, l2, l3] (vI j1 :: .ref 1000 :: st) (N, L, M) Q = WP d 222 663 [l0, l1, l2, l3] (M 1000 j1.toNat :: st) (N, L, M) Q := w_ialdS (by rfl) hj hm
set_option maxRecDepth 100000 in
theorem s222_663 {l1 l2 l3 : Value}  : WP d 222 663 [.ref 1000, l1, l2, l3] (st) X Q = WP d 222 664 [.ref 1000, l1, l2, l3] (.ref 1000 :: st) X Q := w_aload_n (by rfl) rfl (by decide)
set_option maxRecDepth 100000 in
theorem s222_664 {l0 l1 l2 : Value} {z1 : Int} : WP d 222 664 [l0, l1, l2, vI z1] (st) X Q = WP d 222 665 [l0, l1, l2, vI z1] (vI z1 :: st) X Q := w_iload_n (by rfl) rfl
set_option maxRecDepth 100000 in
theorem s222_665 {l0 l1 l2 l3 : Value}  : WP d 222 665 [l0, l1, l2, l3] (st) X Q = WP d 222 666 [l0, l1, l2, l3] (vI (2) :: st) X Q := w_iconst (by rfl)
set_option maxRecDepth 100000 in
theorem s222_666 {l0 l1 l2 l3 : Value} {z1 : Int} {z2 : Int} : WP d 222 666 [l0, l1, l2, l3] (vI z2 :: vI z1 :: st) X Q = WP d 222 667 [l0, l1, l2, l3] (vI (z1 + z2) :: st) X Q := w_iadd (by rfl)
set_option maxRecDepth 100000 in
theorem s222_667 {l0 l1 l2 l3 : Value} {j1 : Int} (hj : 0 ≤ j1 ∧ j1 < (L : Int)) (hm : L ≤ 2147483647) : WP d 222 667 [l0, l1, l2, l3] (vI j1 :: .ref 1000 :: st) (N, L, M) Q = WP d 222 668 [l0, l1, l2, l3] (M 1000 j1.toNat :: st) (N, L, M) Q := w_ialdS (by rfl) hj hm
set_option maxRecDepth 100000 in
theorem c222_668 {l0 l1 l2 l3 : Value} {x0 : Value} {z1 : Int} {z2 : Int} {r : Int} {X' : q_H} (hN : 82 < N) (hS : Sp d 168 [.ref 82, vI z1, vI z2] (N, L, M) (some (vI r)) X') : WP d 222 668 [l0, l1, l2, l3] (vI z2 :: vI z1 :: .ref 82 :: x0 :: []) (N, L, M) Q = WP d 222 671 [l0, l1, l2, l3] (vI r :: x0 :: []) X' Q := w_callv (vs := [vI z1, vI z2]) (by rfl) (by rfl) rfl (Nat.le_of_ble_eq_true rfl) (kd := 9) (by rfl) (by decide) (Or.inl hN) (by rfl) hS
set_option maxRecDepth 100000 in
theorem s222_671 {l0 l1 l2 l3 : Value} {z1 : Int} {z2 : Int} (h1 : -2147483648 ≤ z1 ∧ z1 ≤ 2147483647) (h2 : -2147483648 ≤ z2 ∧ z2 ≤ 2147483647) : WP d 222 671 [l0, l1, l2, l3] (vI z2 :: vI z1 :: st) X Q = if z1 = z2 then WP d 222 1421 [l0, l1, l2, l3] (st) X Q else WP d 222 674 [l0, l1, l2, l3] (st) X Q := w_icmpeq (by rfl) (by decide) h1 h2
set_option maxRecDepth 100000 in
theorem s222_671b {l0 l1 l2 l3 : Value} {P R : Prop} [Decidable P] [Decidable R] : WP d 222 671 [l0, l1, l2, l3] (vI (bI R) :: vI (bI P) :: st) X Q = if (P ↔ R) then WP d 222 1421 [l0, l1, l2, l3] (st) X Q else WP d 222 674 [l0, l1, l2, l3] (st) X Q := w_icmpeqb (by rfl) (by decide)
set_option maxRecDepth 100000 in
theorem s222_674 {l0 l1 l2 l3 : Value}  : WP d 222 674 [l0, l1, l2, l3] (st) X Q = WP d 222 675 [l0, l1, l2, l3] (vI (0) :: st) X Q := w_iconst (by rfl)
set_option maxRecDepth 100000 in
theorem s222_675 {l0 l1 l2 l3 : Value} {z1 : Int} (hz : z1 = 0 ∨ z1 = 1) : WP d 222 675 [l0, l1, l2, l3] (vI z1 :: []) X Q = Q (some (vI z1)) X := w_iretz (by rfl) (by rfl) (nb_bool hz)
set_option maxRecDepth 100000 in
theorem s222_675b {l0 l1 l2 l3 : Value} {P : Prop} [Decidable P] : WP d 222 675 [l0, l1, l2, l3] (vI (bI P) :: []) X Q = Q (some (vI (bI P))) X := w_iretz (by rfl) (by rfl) (nb_bool (bI_01 P))
set_option maxRecDepth 100000 in
theorem s222_676 {l0 l2 l3 : Value}  : WP d 222 676 [l0, .ref 0, l2, l3] (st) X Q = WP d 222 677 [l0, .ref 0, l2, l3] (.ref 0 :: st) X Q := w_aload_n (by rfl) rfl (by decide)
set_option maxRecDepth 100000 in
theorem s222_677 {l1 l2 l3 : Value}  : WP d 222 677 [.ref 1000, l1, l2, l3] (st) X Q = WP d 222 678 [.ref 1000, l1, l2, l3] (.ref 1000 :: st) X Q := w_aload_n (by rfl) rfl (by decide)
set_option maxRecDepth 100000 in
theorem s222_678 {l0 l1 l2 : Value} {z1 : Int} : WP d 222 678 [l0, l1, l2, vI z1] (st) X Q = WP d 222 679 [l0, l1, l2, vI z1] (vI z1 :: st) X Q := w_iload_n (by rfl) rfl
set_option maxRecDepth 100000 in
theorem s222_679 {l0 l1 l2 l3 : Value}  : WP d 222 679 [l0, l1, l2, l3] (st) X Q = WP d 222 680 [l0, l1, l2, l3] (vI (1) :: st) X Q := w_iconst (by rfl)
set_option maxRecDepth 100000 in
theorem s222_680 {l0 l1 l2 l3 : Value} {z1 : Int} {z2 : Int} : WP d 222 680 [l0, l1, l2, l3] (vI z2 :: vI z1 :: st) X Q = WP d 222 681 [l0, l1, l2, l3] (vI (z1 + z2) :: st) X Q := w_iadd (by rfl)
set_option maxRecDepth 100000 in
theorem s222_681 {l0 l1 l2 l3 : Value} {j1 : Int} (hj : 0 ≤ j1 ∧ j1 < (L : Int)) (hm : L ≤ 2147483647) : WP d 222 681 [l0, l1, l2, l3] (vI j1 :: .ref 1000 :: st) (N, L, M) Q = WP d 222 682 [l0, l1, l2, l3] (M 1000 j1.toNat :: st) (N, L, M) Q := w_ialdS (by rfl) hj hm
set_option maxRecDepth 100000 in
theorem c222_682 {l0 l1 l2 l3 : Value} {z1 : Int} {r : Int} {X' : q_H} (hN : 0 < N) (hS : Sp d 70 [.ref 0, vI z1] (N, L, M) (some (vI r)) X') : WP d 222 682 [l0, l1, l2, l3] (vI z1 :: .ref 0 :: []) (N, L, M) Q = WP d 222 685 [l0, l1, l2, l3] (vI r :: []) X' Q := w_callv (vs := [vI z1]) (by rfl) (by rfl) rfl (Nat.le_of_ble_eq_true rfl) (kd := 8) (by rfl) (by decide) (Or.inl hN) (by rfl) hS
set_option maxRecDepth 100000 in
theorem s222_685 {l0 l1 l3 : Value}  : WP d 222 685 [l0, l1, .ref 82, l3] (st) X Q = WP d 222 686 [l0, l1, .ref 82, l3] (.ref 82 :: st) X Q := w_aload_n (by rfl) rfl (by decide)
set_option maxRecDepth 100000 in
theorem s222_686 {l1 l2 l3 : Value}  : WP d 222 686 [.ref 1000, l1, l2, l3] (st) X Q = WP d 222 687 [.ref 1000, l1, l2, l3] (.ref 1000 :: st) X Q := w_aload_n (by rfl) rfl (by decide)
set_option maxRecDepth 100000 in
theorem s222_687 {l0 l1 l2 : Value} {z1 : Int} : WP d 222 687 [l0, l1, l2, vI z1] (st) X Q = WP d 222 688 [l0, l1, l2, vI z1] (vI z1 :: st) X Q := w_iload_n (by rfl) rfl
set_option maxRecDepth 100000 in
theorem s222_688 {l0 l1 l2 l3 : Value}  : WP d 222 688 [l0, l1, l2, l3] (st) X Q = WP d 222 689 [l0, l1, l2, l3] (vI (1) :: st) X Q := w_iconst (by rfl)
set_option maxRecDepth 100000 in
theorem s222_689 {l0 l1 l2 l3 : Value} {z1 : Int} {z2 : Int} : WP d 222 689 [l0, l1, l2, l3] (vI z2 :: vI z1 :: st) X Q = WP d 222 690 [l0, l1, l2, l3] (vI (z1 + z2) :: st) X Q := w_iadd (by rfl)
set_option maxRecDepth 100000 in
theorem s222_690 {l0 l1 l2 l3 : Value} {j1 : Int} (hj : 0 ≤ j1 ∧ j1 < (L : Int)) (hm : L ≤ 2147483647) : WP d 222 690 [l0, l1, l2, l3] (vI j1 :: .ref 1000 :: st) (N, L, M) Q = WP d 222 691 [l0, l1, l2, l3] (M 1000 j1.toNat :: st) (N, L, M) Q := w_ialdS (by rfl) hj hm
set_option maxRecDepth 100000 in
theorem c222_691 {l0 l1 l2 l3 : Value} {x0 : Value} {z1 : Int} {r : Int} {X' : q_H} (hN : 82 < N) (hS : Sp d 169 [.ref 82, vI z1] (N, L, M) (some (vI r)) X') : WP d 222 691 [l0, l1, l2, l3] (vI z1 :: .ref 82 :: x0 :: []) (N, L, M) Q = WP d 222 694 [l0, l1, l2, l3] (vI r :: x0 :: []) X' Q := w_callv (vs := [vI z1]) (by rfl) (by rfl) rfl (Nat.le_of_ble_eq_true rfl) (kd := 9) (by rfl) (by decide) (Or.inl hN) (by rfl) hS
set_option maxRecDepth 100000 in
theorem s222_694 {l0 l1 l2 l3 : Value} {z1 : Int} {z2 : Int} (h1 : -2147483648 ≤ z1 ∧ z1 ≤ 2147483647) (h2 : -2147483648 ≤ z2 ∧ z2 ≤ 2147483647) : WP d 222 694 [l0, l1, l2, l3] (vI z2 :: vI z1 :: st) X Q = if z1 = z2 then WP d 222 1421 [l0, l1, l2, l3] (st) X Q else WP d 222 697 [l0, l1, l2, l3] (st) X Q := w_icmpeq (by rfl) (by decide) h1 h2
set_option maxRecDepth 100000 in
theorem s222_694b {l0 l1 l2 l3 : Value} {P R : Prop} [Decidable P] [Decidable R] : WP d 222 694 [l0, l1, l2, l3] (vI (bI R) :: vI (bI P) :: st) X Q = if (P ↔ R) then WP d 222 1421 [l0, l1, l2, l3] (st) X Q else WP d 222 697 [l0, l1, l2, l3] (st) X Q := w_icmpeqb (by rfl) (by decide)
set_option maxRecDepth 100000 in
theorem s222_697 {l0 l1 l2 l3 : Value}  : WP d 222 697 [l0, l1, l2, l3] (st) X Q = WP d 222 698 [l0, l1, l2, l3] (vI (0) :: st) X Q := w_iconst (by rfl)
set_option maxRecDepth 100000 in
theorem s222_698 {l0 l1 l2 l3 : Value} {z1 : Int} (hz : z1 = 0 ∨ z1 = 1) : WP d 222 698 [l0, l1, l2, l3] (vI z1 :: []) X Q = Q (some (vI z1)) X := w_iretz (by rfl) (by rfl) (nb_bool hz)
set_option maxRecDepth 100000 in
theorem s222_698b {l0 l1 l2 l3 : Value} {P : Prop} [Decidable P] : WP d 222 698 [l0, l1, l2, l3] (vI (bI P) :: []) X Q = Q (some (vI (bI P))) X := w_iretz (by rfl) (by rfl) (nb_bool (bI_01 P))
set_option maxRecDepth 100000 in
theorem s222_699 {l0 l2 l3 : Value}  : WP d 222 699 [l0, .ref 0, l2, l3] (st) X Q = WP d 222 700 [l0, .ref 0, l2, l3] (.ref 0 :: st) X Q := w_aload_n (by rfl) rfl (by decide)
set_option maxRecDepth 100000 in
theorem s222_700 {l1 l2 l3 : Value}  : WP d 222 700 [.ref 1000, l1, l2, l3] (st) X Q = WP d 222 701 [.ref 1000, l1, l2, l3] (.ref 1000 :: st) X Q := w_aload_n (by rfl) rfl (by decide)
set_option maxRecDepth 100000 in
theorem s222_701 {l0 l1 l2 : Value} {z1 : Int} : WP d 222 701 [l0, l1, l2, vI z1] (st) X Q = WP d 222 702 [l0, l1, l2, vI z1] (vI z1 :: st) X Q := w_iload_n (by rfl) rfl
set_option maxRecDepth 100000 in
theorem s222_702 {l0 l1 l2 l3 : Value}  : WP d 222 702 [l0, l1, l2, l3] (st) X Q = WP d 222 703 [l0, l1, l2, l3] (vI (1) :: st) X Q := w_iconst (by rfl)
set_option maxRecDepth 100000 in
theorem s222_703 {l0 l1 l2 l3 : Value} {z1 : Int} {z2 : Int} : WP d 222 703 [l0, l1, l2, l3] (vI z2 :: vI z1 :: st) X Q = WP d 222 704 [l0, l1, l2, l3] (vI (z1 + z2) :: st) X Q := w_iadd (by rfl)
set_option maxRecDepth 100000 in
theorem s222_704 {l0 l1 l2 l3 : Value} {j1 : Int} (hj : 0 ≤ j1 ∧ j1 < (L : Int)) (hm : L ≤ 2147483647) : WP d 222 704 [l0, l1, l2, l3] (vI j1 :: .ref 1000 :: st) (N, L, M) Q = WP d 222 705 [l0, l1, l2, l3] (M 1000 j1.toNat :: st) (N, L, M) Q := w_ialdS (by rfl) hj hm
set_option maxRecDepth 100000 in
theorem c222_705 {l0 l1 l2 l3 : Value} {z1 : Int} {r : Int} {X' : q_H} (hN : 0 < N) (hS : Sp d 71 [.ref 0, vI z1] (N, L, M) (some (vI r)) X') : WP d 222 705 [l0, l1, l2, l3] (vI z1 :: .ref 0 :: []) (N, L, M) Q = WP d 222 708 [l0, l1, l2, l3] (vI r :: []) X' Q := w_callv (vs := [vI z1]) (by rfl) (by rfl) rfl (Nat.le_of_ble_eq_true rfl) (kd := 8) (by rfl) (by decide) (Or.inl hN) (by rfl) hS
set_option maxRecDepth 100000 in
theorem s222_708 {l0 l1 l3 : Value}  : WP d 222 708 [l0, l1, .ref 82, l3] (st) X Q = WP d 222 709 [l0, l1, .ref 82, l3] (.ref 82 :: st) X Q := w_aload_n (by rfl) rfl (by decide)
set_option maxRecDepth 100000 in
theorem s222_709 {l1 l2 l3 : Value}  : WP d 222 709 [.ref 1000, l1, l2, l3] (st) X Q = WP d 222 710 [.ref 1000, l1, l2, l3] (.ref 1000 :: st) X Q := w_aload_n (by rfl) rfl (by decide)
set_option maxRecDepth 100000 in
theorem s222_710 {l0 l1 l2 : Value} {z1 : Int} : WP d 222 710 [l0, l1, l2, vI z1] (st) X Q = WP d 222 711 [l0, l1, l2, vI z1] (vI z1 :: st) X Q := w_iload_n (by rfl) rfl
set_option maxRecDepth 100000 in
theorem s222_711 {l0 l1 l2 l3 : Value}  : WP d 222 711 [l0, l1, l2, l3] (st) X Q = WP d 222 712 [l0, l1, l2, l3] (vI (1) :: st) X Q := w_iconst (by rfl)
set_option maxRecDepth 100000 in
theorem s222_712 {l0 l1 l2 l3 : Value} {z1 : Int} {z2 : Int} : WP d 222 712 [l0, l1, l2, l3] (vI z2 :: vI z1 :: st) X Q = WP d 222 713 [l0, l1, l2, l3] (vI (z1 + z2) :: st) X Q := w_iadd (by rfl)
set_option maxRecDepth 100000 in
theorem s222_713 {l0 l1 l2 l3 : Value} {j1 : Int} (hj : 0 ≤ j1 ∧ j1 < (L : Int)) (hm : L ≤ 2147483647) : WP d 222 713 [l0, l1, l2, l3] (vI j1 :: .ref 1000 :: st) (N, L, M) Q = WP d 222 714 [l0, l1, l2, l3] (M 1000 j1.toNat :: st) (N, L, M) Q := w_ialdS (by rfl) hj hm
set_option maxRecDepth 100000 in
theorem c222_714 {l0 l1 l2 l3 : Value} {x0 : Value} {z1 : Int} {r : Int} {X' : q_H} (hN : 82 < N) (hS : Sp d 171 [.ref 82, vI z1] (N, L, M) (some (vI r)) X') : WP d 222 714 [l0, l1, l2, l3] (vI z1 :: .ref 82 :: x0 :: []) (N, L, M) Q = WP d 222 717 [l0, l1, l2, l3] (vI r :: x0 :: []) X' Q := w_callv (vs := [vI z1]) (by rfl) (by rfl) rfl (Nat.le_of_ble_eq_true rfl) (kd := 9) (by rfl) (by decide) (Or.inl hN) (by rfl) hS
set_option maxRecDepth 100000 in
theorem s222_717 {l0 l1 l2 l3 : Value} {z1 : Int} {z2 : Int} (h1 : -2147483648 ≤ z1 ∧ z1 ≤ 2147483647) (h2 : -2147483648 ≤ z2 ∧ z2 ≤ 2147483647) : WP d 222 717 [l0, l1, l2, l3] (vI z2 :: vI z1 :: st) X Q = if z1 = z2 then WP d 222 1421 [l0, l1, l2, l3] (st) X Q else WP d 222 720 [l0, l1, l2, l3] (st) X Q := w_icmpeq (by rfl) (by decide) h1 h2
set_option maxRecDepth 100000 in
theorem s222_717b {l0 l1 l2 l3 : Value} {P R : Prop} [Decidable P] [Decidable R] : WP d 222 717 [l0, l1, l2, l3] (vI (bI R) :: vI (bI P) :: st) X Q = if (P ↔ R) then WP d 222 1421 [l0, l1, l2, l3] (st) X Q else WP d 222 720 [l0, l1, l2, l3] (st) X Q := w_icmpeqb (by rfl) (by decide)
set_option maxRecDepth 100000 in
theorem s222_720 {l0 l1 l2 l3 : Value}  : WP d 222 720 [l0, l1, l2, l3] (st) X Q = WP d 222 721 [l0, l1, l2, l3] (vI (0) :: st) X Q := w_iconst (by rfl)
set_option maxRecDepth 100000 in
theorem s222_721 {l0 l1 l2 l3 : Value} {z1 : Int} (hz : z1 = 0 ∨ z1 = 1) : WP d 222 721 [l0, l1, l2, l3] (vI z1 :: []) X Q = Q (some (vI z1)) X := w_iretz (by rfl) (by rfl) (nb_bool hz)
set_option maxRecDepth 100000 in
theorem s222_721b {l0 l1 l2 l3 : Value} {P : Prop} [Decidable P] : WP d 222 721 [l0, l1, l2, l3] (vI (bI P) :: []) X Q = Q (some (vI (bI P))) X := w_iretz (by rfl) (by rfl) (nb_bool (bI_01 P))
set_option maxRecDepth 100000 in
theorem s222_722 {l0 l2 l3 : Value}  : WP d 222 722 [l0, .ref 0, l2, l3] (st) X Q = WP d 222 723 [l0, .ref 0, l2, l3] (.ref 0 :: st) X Q := w_aload_n (by rfl) rfl (by decide)
set_option maxRecDepth 100000 in
theorem s222_723 {l1 l2 l3 : Value}  : WP d 222 723 [.ref 1000, l1, l2, l3] (st) X Q = WP d 222 724 [.ref 1000, l1, l2, l3] (.ref 1000 :: st) X Q := w_aload_n (by rfl) rfl (by decide)
set_option maxRecDepth 100000 in
theorem s222_724 {l0 l1 l2 : Value} {z1 : Int} : WP d 222 724 [l0, l1, l2, vI z1] (st) X Q = WP d 222 725 [l0, l1, l2, vI z1] (vI z1 :: st) X Q := w_iload_n (by rfl) rfl
set_option maxRecDepth 100000 in
theorem s222_725 {l0 l1 l2 l3 : Value}  : WP d 222 725 [l0, l1, l2, l3] (st) X Q = WP d 222 726 [l0, l1, l2, l3] (vI (1) :: st) X Q := w_iconst (by rfl)
set_option maxRecDepth 100000 in
theorem s222_726 {l0 l1 l2 l3 : Value} {z1 : Int} {z2 : Int} : WP d 222 726 [l0, l1, l2, l3] (vI z2 :: vI z1 :: st) X Q = WP d 222 727 [l0, l1, l2, l3] (vI (z1 + z2) :: st) X Q := w_iadd (by rfl)
set_option maxRecDepth 100000 in
theorem s222_727 {l0 l1 l2 l3 : Value} {j1 : Int} (hj : 0 ≤ j1 ∧ j1 < (L : Int)) (hm : L ≤ 2147483647) : WP d 222 727 [l0, l1, l2, l3] (vI j1 :: .ref 1000 :: st) (N, L, M) Q = WP d 222 728 [l0, l1, l2, l3] (M 1000 j1.toNat :: st) (N, L, M) Q := w_ialdS (by rfl) hj hm
set_option maxRecDepth 100000 in
theorem c222_728 {l0 l1 l2 l3 : Value} {z1 : Int} {r : Int} {X' : q_H} (hN : 0 < N) (hS : Sp d 72 [.ref 0, vI z1] (N, L, M) (some (vI r)) X') : WP d 222 728 [l0, l1, l2, l3] (vI z1 :: .ref 0 :: []) (N, L, M) Q = WP d 222 731 [l0, l1, l2, l3] (vI r :: []) X' Q := w_callv (vs := [vI z1]) (by rfl) (by rfl) rfl (Nat.le_of_ble_eq_true rfl) (kd := 8) (by rfl) (by decide) (Or.inl hN) (by rfl) hS
set_option maxRecDepth 100000 in
theorem s222_731 {l0 l1 l3 : Value}  : WP d 222 731 [l0, l1, .ref 82, l3] (st) X Q = WP d 222 732 [l0, l1, .ref 82, l3] (.ref 82 :: st) X Q := w_aload_n (by rfl) rfl (by decide)
set_option maxRecDepth 100000 in
theorem s222_732 {l1 l2 l3 : Value}  : WP d 222 732 [.ref 1000, l1, l2, l3] (st) X Q = WP d 222 733 [.ref 1000, l1, l2, l3] (.ref 1000 :: st) X Q := w_aload_n (by rfl) rfl (by decide)
set_option maxRecDepth 100000 in
theorem s222_733 {l0 l1 l2 : Value} {z1 : Int} : WP d 222 733 [l0, l1, l2, vI z1] (st) X Q = WP d 222 734 [l0, l1, l2, vI z1] (vI z1 :: st) X Q := w_iload_n (by rfl) rfl
set_option maxRecDepth 100000 in
theorem s222_734 {l0 l1 l2 l3 : Value}  : WP d 222 734 [l0, l1, l2, l3] (st) X Q = WP d 222 735 [l0, l1, l2, l3] (vI (1) :: st) X Q := w_iconst (by rfl)
set_option maxRecDepth 100000 in
theorem s222_735 {l0 l1 l2 l3 : Value} {z1 : Int} {z2 : Int} : WP d 222 735 [l0, l1, l2, l3] (vI z2 :: vI z1 :: st) X Q = WP d 222 736 [l0, l1, l2, l3] (vI (z1 + z2) :: st) X Q := w_iadd (by rfl)
set_option maxRecDepth 100000 in
theorem s222_736 {l0 l1 l2 l3 : Value} {j1 : Int} (hj : 0 ≤ j1 ∧ j1 < (L : Int)) (hm : L ≤ 2147483647) : WP d 222 736 [l0, l1, l2, l3] (vI j1 :: .ref 1000 :: st) (N, L, M) Q = WP d 222 737 [l0, l1, l2, l3] (M 1000 j1.toNat :: st) (N, L, M) Q := w_ialdS (by rfl) hj hm
set_option maxRecDepth 100000 in
theorem c222_737 {l0 l1 l2 l3 : Value} {x0 : Value} {z1 : Int} {r : Int} {X' : q_H} (hN : 82 < N) (hS : Sp d 172 [.ref 82, vI z1] (N, L, M) (some (vI r)) X') : WP d 222 737 [l0, l1, l2, l3] (vI z1 :: .ref 82 :: x0 :: []) (N, L, M) Q = WP d 222 740 [l0, l1, l2, l3] (vI r :: x0 :: []) X' Q := w_callv (vs := [vI z1]) (by rfl) (by rfl) rfl (Nat.le_of_ble_eq_true rfl) (kd := 9) (by rfl) (by decide) (Or.inl hN) (by rfl) hS
set_option maxRecDepth 100000 in
theorem s222_740 {l0 l1 l2 l3 : Value} {z1 : Int} {z2 : Int} (h1 : -2147483648 ≤ z1 ∧ z1 ≤ 2147483647) (h2 : -2147483648 ≤ z2 ∧ z2 ≤ 2147483647) : WP d 222 740 [l0, l1, l2, l3] (vI z2 :: vI z1 :: st) X Q = if z1 = z2 then WP d 222 1421 [l0, l1, l2, l3] (st) X Q else WP d 222 743 [l0, l1, l2, l3] (st) X Q := w_icmpeq (by rfl) (by decide) h1 h2
set_option maxRecDepth 100000 in
theorem s222_740b {l0 l1 l2 l3 : Value} {P R : Prop} [Decidable P] [Decidable R] : WP d 222 740 [l0, l1, l2, l3] (vI (bI R) :: vI (bI P) :: st) X Q = if (P ↔ R) then WP d 222 1421 [l0, l1, l2, l3] (st) X Q else WP d 222 743 [l0, l1, l2, l3] (st) X Q := w_icmpeqb (by rfl) (by decide)
set_option maxRecDepth 100000 in
theorem s222_743 {l0 l1 l2 l3 : Value}  : WP d 222 743 [l0, l1, l2, l3] (st) X Q = WP d 222 744 [l0, l1, l2, l3] (vI (0) :: st) X Q := w_iconst (by rfl)
set_option maxRecDepth 100000 in
theorem s222_744 {l0 l1 l2 l3 : Value} {z1 : Int} (hz : z1 = 0 ∨ z1 = 1) : WP d 222 744 [l0, l1, l2, l3] (vI z1 :: []) X Q = Q (some (vI z1)) X := w_iretz (by rfl) (by rfl) (nb_bool hz)
set_option maxRecDepth 100000 in
theorem s222_744b {l0 l1 l2 l3 : Value} {P : Prop} [Decidable P] : WP d 222 744 [l0, l1, l2, l3] (vI (bI P) :: []) X Q = Q (some (vI (bI P))) X := w_iretz (by rfl) (by rfl) (nb_bool (bI_01 P))
set_option maxRecDepth 100000 in
theorem s222_745 {l0 l2 l3 : Value}  : WP d 222 745 [l0, .ref 0, l2, l3] (st) X Q = WP d 222 746 [l0, .ref 0, l2, l3] (.ref 0 :: st) X Q := w_aload_n (by rfl) rfl (by decide)
set_option maxRecDepth 100000 in
theorem s222_746 {l1 l2 l3 : Value}  : WP d 222 746 [.ref 1000, l1, l2, l3] (st) X Q = WP d 222 747 [.ref 1000, l1, l2, l3] (.ref 1000 :: st) X Q := w_aload_n (by rfl) rfl (by decide)
set_option maxRecDepth 100000 in
theorem s222_747 {l0 l1 l2 : Value} {z1 : Int} : WP d 222 747 [l0, l1, l2, vI z1] (st) X Q = WP d 222 748 [l0, l1, l2, vI z1] (vI z1 :: st) X Q := w_iload_n (by rfl) rfl
set_option maxRecDepth 100000 in
theorem s222_748 {l0 l1 l2 l3 : Value}  : WP d 222 748 [l0, l1, l2, l3] (st) X Q = WP d 222 749 [l0, l1, l2, l3] (vI (1) :: st) X Q := w_iconst (by rfl)
set_option maxRecDepth 100000 in
theorem s222_749 {l0 l1 l2 l3 : Value} {z1 : Int} {z2 : Int} : WP d 222 749 [l0, l1, l2, l3] (vI z2 :: vI z1 :: st) X Q = WP d 222 750 [l0, l1, l2, l3] (vI (z1 + z2) :: st) X Q := w_iadd (by rfl)
set_option maxRecDepth 100000 in
theorem s222_750 {l0 l1 l2 l3 : Value} {j1 : Int} (hj : 0 ≤ j1 ∧ j1 < (L : Int)) (hm : L ≤ 2147483647) : WP d 222 750 [l0, l1, l2, l3] (vI j1 :: .ref 1000 :: st) (N, L, M) Q = WP d 222 751 [l0, l1, l2, l3] (M 1000 j1.toNat :: st) (N, L, M) Q := w_ialdS (by rfl) hj hm
set_option maxRecDepth 100000 in
theorem c222_751 {l0 l1 l2 l3 : Value} {z1 : Int} {r : Int} {X' : q_H} (hN : 0 < N) (hS : Sp d 73 [.ref 0, vI z1] (N, L, M) (some (vI r)) X') : WP d 222 751 [l0, l1, l2, l3] (vI z1 :: .ref 0 :: []) (N, L, M) Q = WP d 222 754 [l0, l1, l2, l3] (vI r :: []) X' Q := w_callv (vs := [vI z1]) (by rfl) (by rfl) rfl (Nat.le_of_ble_eq_true rfl) (kd := 8) (by rfl) (by decide) (Or.inl hN) (by rfl) hS
set_option maxRecDepth 100000 in
theorem s222_754 {l0 l1 l3 : Value}  : WP d 222 754 [l0, l1, .ref 82, l3] (st) X Q = WP d 222 755 [l0, l1, .ref 82, l3] (.ref 82 :: st) X Q := w_aload_n (by rfl) rfl (by decide)
set_option maxRecDepth 100000 in
theorem s222_755 {l1 l2 l3 : Value}  : WP d 222 755 [.ref 1000, l1, l2, l3] (st) X Q = WP d 222 756 [.ref 1000, l1, l2, l3] (.ref 1000 :: st) X Q := w_aload_n (by rfl) rfl (by decide)
set_option maxRecDepth 100000 in
theorem s222_756 {l0 l1 l2 : Value} {z1 : Int} : WP d 222 756 [l0, l1, l2, vI z1] (st) X Q = WP d 222 757 [l0, l1, l2, vI z1] (vI z1 :: st) X Q := w_iload_n (by rfl) rfl
set_option maxRecDepth 100000 in
theorem s222_757 {l0 l1 l2 l3 : Value}  : WP d 222 757 [l0, l1, l2, l3] (st) X Q = WP d 222 758 [l0, l1, l2, l3] (vI (1) :: st) X Q := w_iconst (by rfl)
set_option maxRecDepth 100000 in
theorem s222_758 {l0 l1 l2 l3 : Value} {z1 : Int} {z2 : Int} : WP d 222 758 [l0, l1, l2, l3] (vI z2 :: vI z1 :: st) X Q = WP d 222 759 [l0, l1, l2, l3] (vI (z1 + z2) :: st) X Q := w_iadd (by rfl)
set_option maxRecDepth 100000 in
theorem s222_759 {l0 l1 l2 l3 : Value} {j1 : Int} (hj : 0 ≤ j1 ∧ j1 < (L : Int)) (hm : L ≤ 2147483647) : WP d 222 759 [l0, l1, l2, l3] (vI j1 :: .ref 1000 :: st) (N, L, M) Q = WP d 222 760 [l0, l1, l2, l3] (M 1000 j1.toNat :: st) (N, L, M) Q := w_ialdS (by rfl) hj hm
set_option maxRecDepth 100000 in
theorem c222_760 {l0 l1 l2 l3 : Value} {x0 : Value} {z1 : Int} {r : Int} {X' : q_H} (hN : 82 < N) (hS : Sp d 173 [.ref 82, vI z1] (N, L, M) (some (vI r)) X') : WP d 222 760 [l0, l1, l2, l3] (vI z1 :: .ref 82 :: x0 :: []) (N, L, M) Q = WP d 222 763 [l0, l1, l2, l3] (vI r :: x0 :: []) X' Q := w_callv (vs := [vI z1]) (by rfl) (by rfl) rfl (Nat.le_of_ble_eq_true rfl) (kd := 9) (by rfl) (by decide) (Or.inl hN) (by rfl) hS
set_option maxRecDepth 100000 in
theorem s222_763 {l0 l1 l2 l3 : Value} {z1 : Int} {z2 : Int} (h1 : -2147483648 ≤ z1 ∧ z1 ≤ 2147483647) (h2 : -2147483648 ≤ z2 ∧ z2 ≤ 2147483647) : WP d 222 763 [l0, l1, l2, l3] (vI z2 :: vI z1 :: st) X Q = if z1 = z2 then WP d 222 1421 [l0, l1, l2, l3] (st) X Q else WP d 222 766 [l0, l1, l2, l3] (st) X Q := w_icmpeq (by rfl) (by decide) h1 h2
set_option maxRecDepth 100000 in
theorem s222_763b {l0 l1 l2 l3 : Value} {P R : Prop} [Decidable P] [Decidable R] : WP d 222 763 [l0, l1, l2, l3] (vI (bI R) :: vI (bI P) :: st) X Q = if (P ↔ R) then WP d 222 1421 [l0, l1, l2, l3] (st) X Q else WP d 222 766 [l0, l1, l2, l3] (st) X Q := w_icmpeqb (by rfl) (by decide)
set_option maxRecDepth 100000 in
theorem s222_766 {l0 l1 l2 l3 : Value}  : WP d 222 766 [l0, l1, l2, l3] (st) X Q = WP d 222 767 [l0, l1, l2, l3] (vI (0) :: st) X Q := w_iconst (by rfl)
set_option maxRecDepth 100000 in
theorem s222_767 {l0 l1 l2 l3 : Value} {z1 : Int} (hz : z1 = 0 ∨ z1 = 1) : WP d 222 767 [l0, l1, l2, l3] (vI z1 :: []) X Q = Q (some (vI z1)) X := w_iretz (by rfl) (by rfl) (nb_bool hz)
set_option maxRecDepth 100000 in
theorem s222_767b {l0 l1 l2 l3 : Value} {P : Prop} [Decidable P] : WP d 222 767 [l0, l1, l2, l3] (vI (bI P) :: []) X Q = Q (some (vI (bI P))) X := w_iretz (by rfl) (by rfl) (nb_bool (bI_01 P))
set_option maxRecDepth 100000 in
theorem s222_768 {l0 l2 l3 : Value}  : WP d 222 768 [l0, .ref 0, l2, l3] (st) X Q = WP d 222 769 [l0, .ref 0, l2, l3] (.ref 0 :: st) X Q := w_aload_n (by rfl) rfl (by decide)
set_option maxRecDepth 100000 in
theorem c222_769 {l0 l1 l2 l3 : Value} {r : Int} {X' : q_H} (hN : 0 < N) (hS : Sp d 74 [.ref 0] (N, L, M) (some (vI r)) X') : WP d 222 769 [l0, l1, l2, l3] (.ref 0 :: []) (N, L, M) Q = WP d 222 772 [l0, l1, l2, l3] (vI r :: []) X' Q := w_callv (vs := []) (by rfl) (by rfl) rfl (Nat.le_of_ble_eq_true rfl) (kd := 8) (by rfl) (by decide) (Or.inl hN) (by rfl) hS
set_option maxRecDepth 100000 in
theorem s222_772 {l0 l1 l3 : Value}  : WP d 222 772 [l0, l1, .ref 82, l3] (st) X Q = WP d 222 773 [l0, l1, .ref 82, l3] (.ref 82 :: st) X Q := w_aload_n (by rfl) rfl (by decide)
set_option maxRecDepth 100000 in
theorem c222_773 {l0 l1 l2 l3 : Value} {x0 : Value} {r : Int} {X' : q_H} (hN : 82 < N) (hS : Sp d 174 [.ref 82] (N, L, M) (some (vI r)) X') : WP d 222 773 [l0, l1, l2, l3] (.ref 82 :: x0 :: []) (N, L, M) Q = WP d 222 776 [l0, l1, l2, l3] (vI r :: x0 :: []) X' Q := w_callv (vs := []) (by rfl) (by rfl) rfl (Nat.le_of_ble_eq_true rfl) (kd := 9) (by rfl) (by decide) (Or.inl hN) (by rfl) hS
set_option maxRecDepth 100000 in
theorem s222_776 {l0 l1 l2 l3 : Value} {z1 : Int} {z2 : Int} (h1 : -2147483648 ≤ z1 ∧ z1 ≤ 2147483647) (h2 : -2147483648 ≤ z2 ∧ z2 ≤ 2147483647) : WP d 222 776 [l0, l1, l2, l3] (vI z2 :: vI z1 :: st) X Q = if z1 = z2 then WP d 222 1421 [l0, l1, l2, l3] (st) X Q else WP d 222 779 [l0, l1, l2, l3] (st) X Q := w_icmpeq (by rfl) (by decide) h1 h2
set_option maxRecDepth 100000 in
theorem s222_776b {l0 l1 l2 l3 : Value} {P R : Prop} [Decidable P] [Decidable R] : WP d 222 776 [l0, l1, l2, l3] (vI (bI R) :: vI (bI P) :: st) X Q = if (P ↔ R) then WP d 222 1421 [l0, l1, l2, l3] (st) X Q else WP d 222 779 [l0, l1, l2, l3] (st) X Q := w_icmpeqb (by rfl) (by decide)
set_option maxRecDepth 100000 in
theorem s222_779 {l0 l1 l2 l3 : Value}  : WP d 222 779 [l0, l1, l2, l3] (st) X Q = WP d 222 780 [l0, l1, l2, l3] (vI (0) :: st) X Q := w_iconst (by rfl)
set_option maxRecDepth 100000 in
theorem s222_780 {l0 l1 l2 l3 : Value} {z1 : Int} (hz : z1 = 0 ∨ z1 = 1) : WP d 222 780 [l0, l1, l2, l3] (vI z1 :: []) X Q = Q (some (vI z1)) X := w_iretz (by rfl) (by rfl) (nb_bool hz)
set_option maxRecDepth 100000 in
theorem s222_780b {l0 l1 l2 l3 : Value} {P : Prop} [Decidable P] : WP d 222 780 [l0, l1, l2, l3] (vI (bI P) :: []) X Q = Q (some (vI (bI P))) X := w_iretz (by rfl) (by rfl) (nb_bool (bI_01 P))
set_option maxRecDepth 100000 in
theorem s222_781 {l0 l2 l3 : Value}  : WP d 222 781 [l0, .ref 0, l2, l3] (st) X Q = WP d 222 782 [l0, .ref 0, l2, l3] (.ref 0 :: st) X Q := w_aload_n (by rfl) rfl (by decide)
set_option maxRecDepth 100000 in
theorem s222_782 {l1 l2 l3 : Value}  : WP d 222 782 [.ref 1000, l1, l2, l3] (st) X Q = WP d 222 783 [.ref 1000, l1, l2, l3] (.ref 1000 :: st) X Q := w_aload_n (by rfl) rfl (by decide)
set_option maxRecDepth 100000 in
theorem s222_783 {l0 l1 l2 : Value} {z1 : Int} : WP d 222 783 [l0, l1, l2, vI z1] (st) X Q = WP d 222 784 [l0, l1, l2, vI z1] (vI z1 :: st) X Q := w_iload_n (by rfl) rfl
set_option maxRecDepth 100000 in
theorem s222_784 {l0 l1 l2 l3 : Value}  : WP d 222 784 [l0, l1, l2, l3] (st) X Q = WP d 222 785 [l0, l1, l2, l3] (vI (1) :: st) X Q := w_iconst (by rfl)
set_option maxRecDepth 100000 in
theorem s222_785 {l0 l1 l2 l3 : Value} {z1 : Int} {z2 : Int} : WP d 222 785 [l0, l1, l2, l3] (vI z2 :: vI z1 :: st) X Q = WP d 222 786 [l0, l1, l2, l3] (vI (z1 + z2) :: st) X Q := w_iadd (by rfl)
set_option maxRecDepth 100000 in
theorem s222_786 {l0 l1 l2 l3 : Value} {j1 : Int} (hj : 0 ≤ j1 ∧ j1 < (L : Int)) (hm : L ≤ 2147483647) : WP d 222 786 [l0, l1, l2, l3] (vI j1 :: .ref 1000 :: st) (N, L, M) Q = WP d 222 787 [l0, l1, l2, l3] (M 1000 j1.toNat :: st) (N, L, M) Q := w_ialdS (by rfl) hj hm
set_option maxRecDepth 100000 in
theorem s222_787 {l1 l2 l3 : Value}  : WP d 222 787 [.ref 1000, l1, l2, l3] (st) X Q = WP d 222 788 [.ref 1000, l1, l2, l3] (.ref 1000 :: st) X Q := w_aload_n (by rfl) rfl (by decide)
set_option maxRecDepth 100000 in
theorem s222_788 {l0 l1 l2 : Value} {z1 : Int} : WP d 222 788 [l0, l1, l2, vI z1] (st) X Q = WP d 222 789 [l0, l1, l2, vI z1] (vI z1 :: st) X Q := w_iload_n (by rfl) rfl
set_option maxRecDepth 100000 in
theorem s222_789 {l0 l1 l2 l3 : Value}  : WP d 222 789 [l0, l1, l2, l3] (st) X Q = WP d 222 790 [l0, l1, l2, l3] (vI (2) :: st) X Q := w_iconst (by rfl)
set_option maxRecDepth 100000 in
theorem s222_790 {l0 l1 l2 l3 : Value} {z1 : Int} {z2 : Int} : WP d 222 790 [l0, l1, l2, l3] (vI z2 :: vI z1 :: st) X Q = WP d 222 791 [l0, l1, l2, l3] (vI (z1 + z2) :: st) X Q := w_iadd (by rfl)
set_option maxRecDepth 100000 in
theorem s222_791 {l0 l1 l2 l3 : Value} {j1 : Int} (hj : 0 ≤ j1 ∧ j1 < (L : Int)) (hm : L ≤ 2147483647) : WP d 222 791 [l0, l1, l2, l3] (vI j1 :: .ref 1000 :: st) (N, L, M) Q = WP d 222 792 [l0, l1, l2, l3] (M 1000 j1.toNat :: st) (N, L, M) Q := w_ialdS (by rfl) hj hm
set_option maxRecDepth 100000 in
theorem s222_792 {l1 l2 l3 : Value}  : WP d 222 792 [.ref 1000, l1, l2, l3] (st) X Q = WP d 222 793 [.ref 1000, l1, l2, l3] (.ref 1000 :: st) X Q := w_aload_n (by rfl) rfl (by decide)
set_option maxRecDepth 100000 in
theorem s222_793 {l0 l1 l2 : Value} {z1 : Int} : WP d 222 793 [l0, l1, l2, vI z1] (st) X Q = WP d 222 794 [l0, l1, l2, vI z1] (vI z1 :: st) X Q := w_iload_n (by rfl) rfl
set_option maxRecDepth 100000 in
theorem s222_794 {l0 l1 l2 l3 : Value}  : WP d 222 794 [l0, l1, l2, l3] (st) X Q = WP d 222 795 [l0, l1, l2, l3] (vI (3) :: st) X Q := w_iconst (by rfl)
set_option maxRecDepth 100000 in
theorem s222_795 {l0 l1 l2 l3 : Value} {z1 : Int} {z2 : Int} : WP d 222 795 [l0, l1, l2, l3] (vI z2 :: vI z1 :: st) X Q = WP d 222 796 [l0, l1, l2, l3] (vI (z1 + z2) :: st) X Q := w_iadd (by rfl)
set_option maxRecDepth 100000 in
theorem s222_796 {l0 l1 l2 l3 : Value} {j1 : Int} (hj : 0 ≤ j1 ∧ j1 < (L : Int)) (hm : L ≤ 2147483647) : WP d 222 796 [l0, l1, l2, l3] (vI j1 :: .ref 1000 :: st) (N, L, M) Q = WP d 222 797 [l0, l1, l2, l3] (M 1000 j1.toNat :: st) (N, L, M) Q := w_ialdS (by rfl) hj hm
set_option maxRecDepth 100000 in
theorem c222_797 {l0 l1 l2 l3 : Value} {z1 : Int} {z2 : Int} {z3 : Int} {r : Int} {X' : q_H} (hN : 0 < N) (hS : Sp d 75 [.ref 0, vI z1, vI z2, vI z3] (N, L, M) (some (vI r)) X') : WP d 222 797 [l0, l1, l2, l3] (vI z3 :: vI z2 :: vI z1 :: .ref 0 :: []) (N, L, M) Q = WP d 222 800 [l0, l1, l2, l3] (vI r :: []) X' Q := w_callv (vs := [vI z1, vI z2, vI z3]) (by rfl) (by rfl) rfl (Nat.le_of_ble_eq_true rfl) (kd := 8) (by rfl) (by decide) (Or.inl hN) (by rfl) hS
set_option maxRecDepth 100000 in
theorem s222_800 {l0 l1 l3 : Value}  : WP d 222 800 [l0, l1, .ref 82, l3] (st) X Q = WP d 222 801 [l0, l1, .ref 82, l3] (.ref 82 :: st) X Q := w_aload_n (by rfl) rfl (by decide)
set_option maxRecDepth 100000 in
theorem s222_801 {l1 l2 l3 : Value}  : WP d 222 801 [.ref 1000, l1, l2, l3] (st) X Q = WP d 222 802 [.ref 1000, l1, l2, l3] (.ref 1000 :: st) X Q := w_aload_n (by rfl) rfl (by decide)
set_option maxRecDepth 100000 in
theorem s222_802 {l0 l1 l2 : Value} {z1 : Int} : WP d 222 802 [l0, l1, l2, vI z1] (st) X Q = WP d 222 803 [l0, l1, l2, vI z1] (vI z1 :: st) X Q := w_iload_n (by rfl) rfl
set_option maxRecDepth 100000 in
theorem s222_803 {l0 l1 l2 l3 : Value}  : WP d 222 803 [l0, l1, l2, l3] (st) X Q = WP d 222 804 [l0, l1, l2, l3] (vI (1) :: st) X Q := w_iconst (by rfl)
set_option maxRecDepth 100000 in
theorem s222_804 {l0 l1 l2 l3 : Value} {z1 : Int} {z2 : Int} : WP d 222 804 [l0, l1, l2, l3] (vI z2 :: vI z1 :: st) X Q = WP d 222 805 [l0, l1, l2, l3] (vI (z1 + z2) :: st) X Q := w_iadd (by rfl)
set_option maxRecDepth 100000 in
theorem s222_805 {l0 l1 l2 l3 : Value} {j1 : Int} (hj : 0 ≤ j1 ∧ j1 < (L : Int)) (hm : L ≤ 2147483647) : WP d 222 805 [l0, l1, l2, l3] (vI j1 :: .ref 1000 :: st) (N, L, M) Q = WP d 222 806 [l0, l1, l2, l3] (M 1000 j1.toNat :: st) (N, L, M) Q := w_ialdS (by rfl) hj hm
set_option maxRecDepth 100000 in
theorem s222_806 {l1 l2 l3 : Value}  : WP d 222 806 [.ref 1000, l1, l2, l3] (st) X Q = WP d 222 807 [.ref 1000, l1, l2, l3] (.ref 1000 :: st) X Q := w_aload_n (by rfl) rfl (by decide)
set_option maxRecDepth 100000 in
theorem s222_807 {l0 l1 l2 : Value} {z1 : Int} : WP d 222 807 [l0, l1, l2, vI z1] (st) X Q = WP d 222 808 [l0, l1, l2, vI z1] (vI z1 :: st) X Q := w_iload_n (by rfl) rfl
set_option maxRecDepth 100000 in
theorem s222_808 {l0 l1 l2 l3 : Value}  : WP d 222 808 [l0, l1, l2, l3] (st) X Q = WP d 222 809 [l0, l1, l2, l3] (vI (2) :: st) X Q := w_iconst (by rfl)
set_option maxRecDepth 100000 in
theorem s222_809 {l0 l1 l2 l3 : Value} {z1 : Int} {z2 : Int} : WP d 222 809 [l0, l1, l2, l3] (vI z2 :: vI z1 :: st) X Q = WP d 222 810 [l0, l1, l2, l3] (vI (z1 + z2) :: st) X Q := w_iadd (by rfl)
set_option maxRecDepth 100000 in
theorem s222_810 {l0 l1 l2 l3 : Value} {j1 : Int} (hj : 0 ≤ j1 ∧ j1 < (L : Int)) (hm : L ≤ 2147483647) : WP d 222 810 [l0, l1, l2, l3] (vI j1 :: .ref 1000 :: st) (N, L, M) Q = WP d 222 811 [l0, l1, l2, l3] (M 1000 j1.toNat :: st) (N, L, M) Q := w_ialdS (by rfl) hj hm
set_option maxRecDepth 100000 in
theorem s222_811 {l1 l2 l3 : Value}  : WP d 222 811 [.ref 1000, l1, l2, l3] (st) X Q = WP d 222 812 [.ref 1000, l1, l2, l3] (.ref 1000 :: st) X Q := w_aload_n (by rfl) rfl (by decide)
set_option maxRecDepth 100000 in
theorem s222_812 {l0 l1 l2 : Value} {z1 : Int} : WP d 222 812 [l0, l1, l2, vI z1] (st) X Q = WP d 222 813 [l0, l1, l2, vI z1] (vI z1 :: st) X Q := w_iload_n (by rfl) rfl
set_option maxRecDepth 100000 in
theorem s222_813 {l0 l1 l2 l3 : Value}  : WP d 222 813 [l0, l1, l2, l3] (st) X Q = WP d 222 814 [l0, l1, l2, l3] (vI (3) :: st) X Q := w_iconst (by rfl)
set_option maxRecDepth 100000 in
theorem s222_814 {l0 l1 l2 l3 : Value} {z1 : Int} {z2 : Int} : WP d 222 814 [l0, l1, l2, l3] (vI z2 :: vI z1 :: st) X Q = WP d 222 815 [l0, l1, l2, l3] (vI (z1 + z2) :: st) X Q := w_iadd (by rfl)
set_option maxRecDepth 100000 in
theorem s222_815 {l0 l1 l2 l3 : Value} {j1 : Int} (hj : 0 ≤ j1 ∧ j1 < (L : Int)) (hm : L ≤ 2147483647) : WP d 222 815 [l0, l1, l2, l3] (vI j1 :: .ref 1000 :: st) (N, L, M) Q = WP d 222 816 [l0, l1, l2, l3] (M 1000 j1.toNat :: st) (N, L, M) Q := w_ialdS (by rfl) hj hm
set_option maxRecDepth 100000 in
theorem c222_816 {l0 l1 l2 l3 : Value} {x0 : Value} {z1 : Int} {z2 : Int} {z3 : Int} {r : Int} {X' : q_H} (hN : 82 < N) (hS : Sp d 175 [.ref 82, vI z1, vI z2, vI z3] (N, L, M) (some (vI r)) X') : WP d 222 816 [l0, l1, l2, l3] (vI z3 :: vI z2 :: vI z1 :: .ref 82 :: x0 :: []) (N, L, M) Q = WP d 222 819 [l0, l1, l2, l3] (vI r :: x0 :: []) X' Q := w_callv (vs := [vI z1, vI z2, vI z3]) (by rfl) (by rfl) rfl (Nat.le_of_ble_eq_true rfl) (kd := 9) (by rfl) (by decide) (Or.inl hN) (by rfl) hS
set_option maxRecDepth 100000 in
theorem s222_819 {l0 l1 l2 l3 : Value} {z1 : Int} {z2 : Int} (h1 : -2147483648 ≤ z1 ∧ z1 ≤ 2147483647) (h2 : -2147483648 ≤ z2 ∧ z2 ≤ 2147483647) : WP d 222 819 [l0, l1, l2, l3] (vI z2 :: vI z1 :: st) X Q = if z1 = z2 then WP d 222 1421 [l0, l1, l2, l3] (st) X Q else WP d 222 822 [l0, l1, l2, l3] (st) X Q := w_icmpeq (by rfl) (by decide) h1 h2
set_option maxRecDepth 100000 in
theorem s222_819b {l0 l1 l2 l3 : Value} {P R : Prop} [Decidable P] [Decidable R] : WP d 222 819 [l0, l1, l2, l3] (vI (bI R) :: vI (bI P) :: st) X Q = if (P ↔ R) then WP d 222 1421 [l0, l1, l2, l3] (st) X Q else WP d 222 822 [l0, l1, l2, l3] (st) X Q := w_icmpeqb (by rfl) (by decide)
set_option maxRecDepth 100000 in
theorem s222_822 {l0 l1 l2 l3 : Value}  : WP d 222 822 [l0, l1, l2, l3] (st) X Q = WP d 222 823 [l0, l1, l2, l3] (vI (0) :: st) X Q := w_iconst (by rfl)
set_option maxRecDepth 100000 in
theorem s222_823 {l0 l1 l2 l3 : Value} {z1 : Int} (hz : z1 = 0 ∨ z1 = 1) : WP d 222 823 [l0, l1, l2, l3] (vI z1 :: []) X Q = Q (some (vI z1)) X := w_iretz (by rfl) (by rfl) (nb_bool hz)
set_option maxRecDepth 100000 in
theorem s222_823b {l0 l1 l2 l3 : Value} {P : Prop} [Decidable P] : WP d 222 823 [l0, l1, l2, l3] (vI (bI P) :: []) X Q = Q (some (vI (bI P))) X := w_iretz (by rfl) (by rfl) (nb_bool (bI_01 P))
set_option maxRecDepth 100000 in
theorem s222_824 {l0 l2 l3 : Value}  : WP d 222 824 [l0, .ref 0, l2, l3] (st) X Q = WP d 222 825 [l0, .ref 0, l2, l3] (.ref 0 :: st) X Q := w_aload_n (by rfl) rfl (by decide)
set_option maxRecDepth 100000 in
theorem s222_825 {l1 l2 l3 : Value}  : WP d 222 825 [.ref 1000, l1, l2, l3] (st) X Q = WP d 222 826 [.ref 1000, l1, l2, l3] (.ref 1000 :: st) X Q := w_aload_n (by rfl) rfl (by decide)
set_option maxRecDepth 100000 in
theorem s222_826 {l0 l1 l2 : Value} {z1 : Int} : WP d 222 826 [l0, l1, l2, vI z1] (st) X Q = WP d 222 827 [l0, l1, l2, vI z1] (vI z1 :: st) X Q := w_iload_n (by rfl) rfl
set_option maxRecDepth 100000 in
theorem s222_827 {l0 l1 l2 l3 : Value}  : WP d 222 827 [l0, l1, l2, l3] (st) X Q = WP d 222 828 [l0, l1, l2, l3] (vI (1) :: st) X Q := w_iconst (by rfl)
set_option maxRecDepth 100000 in
theorem s222_828 {l0 l1 l2 l3 : Value} {z1 : Int} {z2 : Int} : WP d 222 828 [l0, l1, l2, l3] (vI z2 :: vI z1 :: st) X Q = WP d 222 829 [l0, l1, l2, l3] (vI (z1 + z2) :: st) X Q := w_iadd (by rfl)
set_option maxRecDepth 100000 in
theorem s222_829 {l0 l1 l2 l3 : Value} {j1 : Int} (hj : 0 ≤ j1 ∧ j1 < (L : Int)) (hm : L ≤ 2147483647) : WP d 222 829 [l0, l1, l2, l3] (vI j1 :: .ref 1000 :: st) (N, L, M) Q = WP d 222 830 [l0, l1, l2, l3] (M 1000 j1.toNat :: st) (N, L, M) Q := w_ialdS (by rfl) hj hm
set_option maxRecDepth 100000 in
theorem s222_830 {l1 l2 l3 : Value}  : WP d 222 830 [.ref 1000, l1, l2, l3] (st) X Q = WP d 222 831 [.ref 1000, l1, l2, l3] (.ref 1000 :: st) X Q := w_aload_n (by rfl) rfl (by decide)
set_option maxRecDepth 100000 in
theorem s222_831 {l0 l1 l2 : Value} {z1 : Int} : WP d 222 831 [l0, l1, l2, vI z1] (st) X Q = WP d 222 832 [l0, l1, l2, vI z1] (vI z1 :: st) X Q := w_iload_n (by rfl) rfl
set_option maxRecDepth 100000 in
theorem s222_832 {l0 l1 l2 l3 : Value}  : WP d 222 832 [l0, l1, l2, l3] (st) X Q = WP d 222 833 [l0, l1, l2, l3] (vI (2) :: st) X Q := w_iconst (by rfl)
set_option maxRecDepth 100000 in
theorem s222_833 {l0 l1 l2 l3 : Value} {z1 : Int} {z2 : Int} : WP d 222 833 [l0, l1, l2, l3] (vI z2 :: vI z1 :: st) X Q = WP d 222 834 [l0, l1, l2, l3] (vI (z1 + z2) :: st) X Q := w_iadd (by rfl)
set_option maxRecDepth 100000 in
theorem s222_834 {l0 l1 l2 l3 : Value} {j1 : Int} (hj : 0 ≤ j1 ∧ j1 < (L : Int)) (hm : L ≤ 2147483647) : WP d 222 834 [l0, l1, l2, l3] (vI j1 :: .ref 1000 :: st) (N, L, M) Q = WP d 222 835 [l0, l1, l2, l3] (M 1000 j1.toNat :: st) (N, L, M) Q := w_ialdS (by rfl) hj hm
set_option maxRecDepth 100000 in
theorem c222_835 {l0 l1 l2 l3 : Value} {z1 : Int} {z2 : Int} {r : Int} {X' : q_H} (hN : 0 < N) (hS : Sp d 76 [.ref 0, vI z1, vI z2] (N, L, M) (some (vI r)) X') : WP d 222 835 [l0, l1, l2, l3] (vI z2 :: vI z1 :: .ref 0 :: []) (N, L, M) Q = WP d 222 838 [l0, l1, l2, l3] (vI r :: []) X' Q := w_callv (vs := [vI z1, vI z2]) (by rfl) (by rfl) rfl (Nat.le_of_ble_eq_true rfl) (kd := 8) (by rfl) (by decide) (Or.inl hN) (by rfl) hS
set_option maxRecDepth 100000 in
theorem s222_838 {l0 l1 l3 : Value}  : WP d 222 838 [l0, l1, .ref 82, l3] (st) X Q = WP d 222 839 [l0, l1, .ref 82, l3] (.ref 82 :: st) X Q := w_aload_n (by rfl) rfl (by decide)
set_option maxRecDepth 100000 in
theorem s222_839 {l1 l2 l3 : Value}  : WP d 222 839 [.ref 1000, l1, l2, l3] (st) X Q = WP d 222 840 [.ref 1000, l1, l2, l3] (.ref 1000 :: st) X Q := w_aload_n (by rfl) rfl (by decide)
set_option maxRecDepth 100000 in
theorem s222_840 {l0 l1 l2 : Value} {z1 : Int} : WP d 222 840 [l0, l1, l2, vI z1] (st) X Q = WP d 222 841 [l0, l1, l2, vI z1] (vI z1 :: st) X Q := w_iload_n (by rfl) rfl
set_option maxRecDepth 100000 in
theorem s222_841 {l0 l1 l2 l3 : Value}  : WP d 222 841 [l0, l1, l2, l3] (st) X Q = WP d 222 842 [l0, l1, l2, l3] (vI (1) :: st) X Q := w_iconst (by rfl)
set_option maxRecDepth 100000 in
theorem s222_842 {l0 l1 l2 l3 : Value} {z1 : Int} {z2 : Int} : WP d 222 842 [l0, l1, l2, l3] (vI z2 :: vI z1 :: st) X Q = WP d 222 843 [l0, l1, l2, l3] (vI (z1 + z2) :: st) X Q := w_iadd (by rfl)
set_option maxRecDepth 100000 in
theorem s222_843 {l0 l1 l2 l3 : Value} {j1 : Int} (hj : 0 ≤ j1 ∧ j1 < (L : Int)) (hm : L ≤ 2147483647) : WP d 222 843 [l0, l1, l2, l3] (vI j1 :: .ref 1000 :: st) (N, L, M) Q = WP d 222 844 [l0, l1, l2, l3] (M 1000 j1.toNat :: st) (N, L, M) Q := w_ialdS (by rfl) hj hm
set_option maxRecDepth 100000 in
theorem s222_844 {l1 l2 l3 : Value}  : WP d 222 844 [.ref 1000, l1, l2, l3] (st) X Q = WP d 222 845 [.ref 1000, l1, l2, l3] (.ref 1000 :: st) X Q := w_aload_n (by rfl) rfl (by decide)
set_option maxRecDepth 100000 in
theorem s222_845 {l0 l1 l2 : Value} {z1 : Int} : WP d 222 845 [l0, l1, l2, vI z1] (st) X Q = WP d 222 846 [l0, l1, l2, vI z1] (vI z1 :: st) X Q := w_iload_n (by rfl) rfl
set_option maxRecDepth 100000 in
theorem s222_846 {l0 l1 l2 l3 : Value}  : WP d 222 846 [l0, l1, l2, l3] (st) X Q = WP d 222 847 [l0, l1, l2, l3] (vI (2) :: st) X Q := w_iconst (by rfl)
set_option maxRecDepth 100000 in
theorem s222_847 {l0 l1 l2 l3 : Value} {z1 : Int} {z2 : Int} : WP d 222 847 [l0, l1, l2, l3] (vI z2 :: vI z1 :: st) X Q = WP d 222 848 [l0, l1, l2, l3] (vI (z1 + z2) :: st) X Q := w_iadd (by rfl)
set_option maxRecDepth 100000 in
theorem s222_848 {l0 l1 l2 l3 : Value} {j1 : Int} (hj : 0 ≤ j1 ∧ j1 < (L : Int)) (hm : L ≤ 2147483647) : WP d 222 848 [l0, l1, l2, l3] (vI j1 :: .ref 1000 :: st) (N, L, M) Q = WP d 222 849 [l0, l1, l2, l3] (M 1000 j1.toNat :: st) (N, L, M) Q := w_ialdS (by rfl) hj hm
set_option maxRecDepth 100000 in
theorem c222_849 {l0 l1 l2 l3 : Value} {x0 : Value} {z1 : Int} {z2 : Int} {r : Int} {X' : q_H} (hN : 82 < N) (hS : Sp d 177 [.ref 82, vI z1, vI z2] (N, L, M) (some (vI r)) X') : WP d 222 849 [l0, l1, l2, l3] (vI z2 :: vI z1 :: .ref 82 :: x0 :: []) (N, L, M) Q = WP d 222 852 [l0, l1, l2, l3] (vI r :: x0 :: []) X' Q := w_callv (vs := [vI z1, vI z2]) (by rfl) (by rfl) rfl (Nat.le_of_ble_eq_true rfl) (kd := 9) (by rfl) (by decide) (Or.inl hN) (by rfl) hS
set_option maxRecDepth 100000 in
theorem s222_852 {l0 l1 l2 l3 : Value} {z1 : Int} {z2 : Int} (h1 : -2147483648 ≤ z1 ∧ z1 ≤ 2147483647) (h2 : -2147483648 ≤ z2 ∧ z2 ≤ 2147483647) : WP d 222 852 [l0, l1, l2, l3] (vI z2 :: vI z1 :: st) X Q = if z1 = z2 then WP d 222 1421 [l0, l1, l2, l3] (st) X Q else WP d 222 855 [l0, l1, l2, l3] (st) X Q := w_icmpeq (by rfl) (by decide) h1 h2
set_option maxRecDepth 100000 in
theorem s222_852b {l0 l1 l2 l3 : Value} {P R : Prop} [Decidable P] [Decidable R] : WP d 222 852 [l0, l1, l2, l3] (vI (bI R) :: vI (bI P) :: st) X Q = if (P ↔ R) then WP d 222 1421 [l0, l1, l2, l3] (st) X Q else WP d 222 855 [l0, l1, l2, l3] (st) X Q := w_icmpeqb (by rfl) (by decide)
set_option maxRecDepth 100000 in
theorem s222_855 {l0 l1 l2 l3 : Value}  : WP d 222 855 [l0, l1, l2, l3] (st) X Q = WP d 222 856 [l0, l1, l2, l3] (vI (0) :: st) X Q := w_iconst (by rfl)
set_option maxRecDepth 100000 in
theorem s222_856 {l0 l1 l2 l3 : Value} {z1 : Int} (hz : z1 = 0 ∨ z1 = 1) : WP d 222 856 [l0, l1, l2, l3] (vI z1 :: []) X Q = Q (some (vI z1)) X := w_iretz (by rfl) (by rfl) (nb_bool hz)
set_option maxRecDepth 100000 in
theorem s222_856b {l0 l1 l2 l3 : Value} {P : Prop} [Decidable P] : WP d 222 856 [l0, l1, l2, l3] (vI (bI P) :: []) X Q = Q (some (vI (bI P))) X := w_iretz (by rfl) (by rfl) (nb_bool (bI_01 P))
set_option maxRecDepth 100000 in
theorem s222_857 {l0 l2 l3 : Value}  : WP d 222 857 [l0, .ref 0, l2, l3] (st) X Q = WP d 222 858 [l0, .ref 0, l2, l3] (.ref 0 :: st) X Q := w_aload_n (by rfl) rfl (by decide)
set_option maxRecDepth 100000 in
theorem s222_858 {l1 l2 l3 : Value}  : WP d 222 858 [.ref 1000, l1, l2, l3] (st) X Q = WP d 222 859 [.ref 1000, l1, l2, l3] (.ref 1000 :: st) X Q := w_aload_n (by rfl) rfl (by decide)
set_option maxRecDepth 100000 in
theorem s222_859 {l0 l1 l2 : Value} {z1 : Int} : WP d 222 859 [l0, l1, l2, vI z1] (st) X Q = WP d 222 860 [l0, l1, l2, vI z1] (vI z1 :: st) X Q := w_iload_n (by rfl) rfl
set_option maxRecDepth 100000 in
theorem s222_860 {l0 l1 l2 l3 : Value}  : WP d 222 860 [l0, l1, l2, l3] (st) X Q = WP d 222 861 [l0, l1, l2, l3] (vI (1) :: st) X Q := w_iconst (by rfl)
set_option maxRecDepth 100000 in
theorem s222_861 {l0 l1 l2 l3 : Value} {z1 : Int} {z2 : Int} : WP d 222 861 [l0, l1, l2, l3] (vI z2 :: vI z1 :: st) X Q = WP d 222 862 [l0, l1, l2, l3] (vI (z1 + z2) :: st) X Q := w_iadd (by rfl)
set_option maxRecDepth 100000 in
theorem s222_862 {l0 l1 l2 l3 : Value} {j1 : Int} (hj : 0 ≤ j1 ∧ j1 < (L : Int)) (hm : L ≤ 2147483647) : WP d 222 862 [l0, l1, l2, l3] (vI j1 :: .ref 1000 :: st) (N, L, M) Q = WP d 222 863 [l0, l1, l2, l3] (M 1000 j1.toNat :: st) (N, L, M) Q := w_ialdS (by rfl) hj hm
set_option maxRecDepth 100000 in
theorem s222_863 {l1 l2 l3 : Value}  : WP d 222 863 [.ref 1000, l1, l2, l3] (st) X Q = WP d 222 864 [.ref 1000, l1, l2, l3] (.ref 1000 :: st) X Q := w_aload_n (by rfl) rfl (by decide)
set_option maxRecDepth 100000 in
theorem s222_864 {l0 l1 l2 : Value} {z1 : Int} : WP d 222 864 [l0, l1, l2, vI z1] (st) X Q = WP d 222 865 [l0, l1, l2, vI z1] (vI z1 :: st) X Q := w_iload_n (by rfl) rfl
set_option maxRecDepth 100000 in
theorem s222_865 {l0 l1 l2 l3 : Value}  : WP d 222 865 [l0, l1, l2, l3] (st) X Q = WP d 222 866 [l0, l1, l2, l3] (vI (2) :: st) X Q := w_iconst (by rfl)
set_option maxRecDepth 100000 in
theorem s222_866 {l0 l1 l2 l3 : Value} {z1 : Int} {z2 : Int} : WP d 222 866 [l0, l1, l2, l3] (vI z2 :: vI z1 :: st) X Q = WP d 222 867 [l0, l1, l2, l3] (vI (z1 + z2) :: st) X Q := w_iadd (by rfl)
set_option maxRecDepth 100000 in
theorem s222_867 {l0 l1 l2 l3 : Value} {j1 : Int} (hj : 0 ≤ j1 ∧ j1 < (L : Int)) (hm : L ≤ 2147483647) : WP d 222 867 [l0, l1, l2, l3] (vI j1 :: .ref 1000 :: st) (N, L, M) Q = WP d 222 868 [l0, l1, l2, l3] (M 1000 j1.toNat :: st) (N, L, M) Q := w_ialdS (by rfl) hj hm
set_option maxRecDepth 100000 in
theorem c222_868 {l0 l1 l2 l3 : Value} {z1 : Int} {z2 : Int} {r : Int} {X' : q_H} (hN : 0 < N) (hS : Sp d 77 [.ref 0, vI z1, vI z2] (N, L, M) (some (vL r)) X') : WP d 222 868 [l0, l1, l2, l3] (vI z2 :: vI z1 :: .ref 0 :: []) (N, L, M) Q = WP d 222 871 [l0, l1, l2, l3] (vL r :: []) X' Q := w_callv (vs := [vI z1, vI z2]) (by rfl) (by rfl) rfl (Nat.le_of_ble_eq_true rfl) (kd := 8) (by rfl) (by decide) (Or.inl hN) (by rfl) hS
set_option maxRecDepth 100000 in
theorem s222_871 {l0 l1 l3 : Value}  : WP d 222 871 [l0, l1, .ref 82, l3] (st) X Q = WP d 222 872 [l0, l1, .ref 82, l3] (.ref 82 :: st) X Q := w_aload_n (by rfl) rfl (by decide)
set_option maxRecDepth 100000 in
theorem s222_872 {l1 l2 l3 : Value}  : WP d 222 872 [.ref 1000, l1, l2, l3] (st) X Q = WP d 222 873 [.ref 1000, l1, l2, l3] (.ref 1000 :: st) X Q := w_aload_n (by rfl) rfl (by decide)
set_option maxRecDepth 100000 in
theorem s222_873 {l0 l1 l2 : Value} {z1 : Int} : WP d 222 873 [l0, l1, l2, vI z1] (st) X Q = WP d 222 874 [l0, l1, l2, vI z1] (vI z1 :: st) X Q := w_iload_n (by rfl) rfl
set_option maxRecDepth 100000 in
theorem s222_874 {l0 l1 l2 l3 : Value}  : WP d 222 874 [l0, l1, l2, l3] (st) X Q = WP d 222 875 [l0, l1, l2, l3] (vI (1) :: st) X Q := w_iconst (by rfl)
set_option maxRecDepth 100000 in
theorem s222_875 {l0 l1 l2 l3 : Value} {z1 : Int} {z2 : Int} : WP d 222 875 [l0, l1, l2, l3] (vI z2 :: vI z1 :: st) X Q = WP d 222 876 [l0, l1, l2, l3] (vI (z1 + z2) :: st) X Q := w_iadd (by rfl)
set_option maxRecDepth 100000 in
theorem s222_876 {l0 l1 l2 l3 : Value} {j1 : Int} (hj : 0 ≤ j1 ∧ j1 < (L : Int)) (hm : L ≤ 2147483647) : WP d 222 876 [l0, l1, l2, l3] (vI j1 :: .ref 1000 :: st) (N, L, M) Q = WP d 222 877 [l0, l1, l2, l3] (M 1000 j1.toNat :: st) (N, L, M) Q := w_ialdS (by rfl) hj hm
set_option maxRecDepth 100000 in
theorem s222_877 {l1 l2 l3 : Value}  : WP d 222 877 [.ref 1000, l1, l2, l3] (st) X Q = WP d 222 878 [.ref 1000, l1, l2, l3] (.ref 1000 :: st) X Q := w_aload_n (by rfl) rfl (by decide)
set_option maxRecDepth 100000 in
theorem s222_878 {l0 l1 l2 : Value} {z1 : Int} : WP d 222 878 [l0, l1, l2, vI z1] (st) X Q = WP d 222 879 [l0, l1, l2, vI z1] (vI z1 :: st) X Q := w_iload_n (by rfl) rfl
set_option maxRecDepth 100000 in
theorem s222_879 {l0 l1 l2 l3 : Value}  : WP d 222 879 [l0, l1, l2, l3] (st) X Q = WP d 222 880 [l0, l1, l2, l3] (vI (2) :: st) X Q := w_iconst (by rfl)
set_option maxRecDepth 100000 in
theorem s222_880 {l0 l1 l2 l3 : Value} {z1 : Int} {z2 : Int} : WP d 222 880 [l0, l1, l2, l3] (vI z2 :: vI z1 :: st) X Q = WP d 222 881 [l0, l1, l2, l3] (vI (z1 + z2) :: st) X Q := w_iadd (by rfl)
set_option maxRecDepth 100000 in
theorem s222_881 {l0 l1 l2 l3 : Value} {j1 : Int} (hj : 0 ≤ j1 ∧ j1 < (L : Int)) (hm : L ≤ 2147483647) : WP d 222 881 [l0, l1, l2, l3] (vI j1 :: .ref 1000 :: st) (N, L, M) Q = WP d 222 882 [l0, l1, l2, l3] (M 1000 j1.toNat :: st) (N, L, M) Q := w_ialdS (by rfl) hj hm
set_option maxRecDepth 100000 in
theorem c222_882 {l0 l1 l2 l3 : Value} {x0 : Value} {z1 : Int} {z2 : Int} {r : Int} {X' : q_H} (hN : 82 < N) (hS : Sp d 180 [.ref 82, vI z1, vI z2] (N, L, M) (some (vL r)) X') : WP d 222 882 [l0, l1, l2, l3] (vI z2 :: vI z1 :: .ref 82 :: x0 :: []) (N, L, M) Q = WP d 222 885 [l0, l1, l2, l3] (vL r :: x0 :: []) X' Q := w_callv (vs := [vI z1, vI z2]) (by rfl) (by rfl) rfl (Nat.le_of_ble_eq_true rfl) (kd := 9) (by rfl) (by decide) (Or.inl hN) (by rfl) hS
set_option maxRecDepth 100000 in
theorem s222_885 {l0 l1 l2 l3 : Value} {z1 : Int} {z2 : Int} (h1 : -9223372036854775808 ≤ z1 ∧ z1 ≤ 9223372036854775807) (h2 : -9223372036854775808 ≤ z2 ∧ z2 ≤ 9223372036854775807) : WP d 222 885 [l0, l1, l2, l3] (vL z2 :: vL z1 :: st) X Q = WP d 222 886 [l0, l1, l2, l3] (vI (cmpz z1 z2) :: st) X Q := w_lcmp (by rfl) h1 h2
set_option maxRecDepth 100000 in
theorem s222_886 {l0 l1 l2 l3 : Value} {z1 : Int} (h1 : -2147483648 ≤ z1 ∧ z1 ≤ 2147483647) : WP d 222 886 [l0, l1, l2, l3] (vI z1 :: st) X Q = if z1 = 0 then WP d 222 1421 [l0, l1, l2, l3] (st) X Q else WP d 222 889 [l0, l1, l2, l3] (st) X Q := w_ifeq (by rfl) (by decide) h1
set_option maxRecDepth 100000 in
theorem s222_886b {l0 l1 l2 l3 : Value} {P : Prop} [Decidable P] : WP d 222 886 [l0, l1, l2, l3] (vI (bI P) :: st) X Q = if P then WP d 222 889 [l0, l1, l2, l3] (st) X Q else WP d 222 1421 [l0, l1, l2, l3] (st) X Q := w_ifeqb (by rfl) (by decide)
set_option maxRecDepth 100000 in
theorem s222_889 {l0 l1 l2 l3 : Value}  : WP d 222 889 [l0, l1, l2, l3] (st) X Q = WP d 222 890 [l0, l1, l2, l3] (vI (0) :: st) X Q := w_iconst (by rfl)
set_option maxRecDepth 100000 in
theorem s222_890 {l0 l1 l2 l3 : Value} {z1 : Int} (hz : z1 = 0 ∨ z1 = 1) : WP d 222 890 [l0, l1, l2, l3] (vI z1 :: []) X Q = Q (some (vI z1)) X := w_iretz (by rfl) (by rfl) (nb_bool hz)
set_option maxRecDepth 100000 in
theorem s222_890b {l0 l1 l2 l3 : Value} {P : Prop} [Decidable P] : WP d 222 890 [l0, l1, l2, l3] (vI (bI P) :: []) X Q = Q (some (vI (bI P))) X := w_iretz (by rfl) (by rfl) (nb_bool (bI_01 P))
set_option maxRecDepth 100000 in
theorem s222_891 {l0 l2 l3 : Value}  : WP d 222 891 [l0, .ref 0, l2, l3] (st) X Q = WP d 222 892 [l0, .ref 0, l2, l3] (.ref 0 :: st) X Q := w_aload_n (by rfl) rfl (by decide)
set_option maxRecDepth 100000 in
theorem s222_892 {l1 l2 l3 : Value}  : WP d 222 892 [.ref 1000, l1, l2, l3] (st) X Q = WP d 222 893 [.ref 1000, l1, l2, l3] (.ref 1000 :: st) X Q := w_aload_n (by rfl) rfl (by decide)
set_option maxRecDepth 100000 in
theorem s222_893 {l0 l1 l2 : Value} {z1 : Int} : WP d 222 893 [l0, l1, l2, vI z1] (st) X Q = WP d 222 894 [l0, l1, l2, vI z1] (vI z1 :: st) X Q := w_iload_n (by rfl) rfl
set_option maxRecDepth 100000 in
theorem s222_894 {l0 l1 l2 l3 : Value}  : WP d 222 894 [l0, l1, l2, l3] (st) X Q = WP d 222 895 [l0, l1, l2, l3] (vI (1) :: st) X Q := w_iconst (by rfl)
set_option maxRecDepth 100000 in
theorem s222_895 {l0 l1 l2 l3 : Value} {z1 : Int} {z2 : Int} : WP d 222 895 [l0, l1, l2, l3] (vI z2 :: vI z1 :: st) X Q = WP d 222 896 [l0, l1, l2, l3] (vI (z1 + z2) :: st) X Q := w_iadd (by rfl)
set_option maxRecDepth 100000 in
theorem s222_896 {l0 l1 l2 l3 : Value} {j1 : Int} (hj : 0 ≤ j1 ∧ j1 < (L : Int)) (hm : L ≤ 2147483647) : WP d 222 896 [l0, l1, l2, l3] (vI j1 :: .ref 1000 :: st) (N, L, M) Q = WP d 222 897 [l0, l1, l2, l3] (M 1000 j1.toNat :: st) (N, L, M) Q := w_ialdS (by rfl) hj hm
set_option maxRecDepth 100000 in
theorem s222_897 {l1 l2 l3 : Value}  : WP d 222 897 [.ref 1000, l1, l2, l3] (st) X Q = WP d 222 898 [.ref 1000, l1, l2, l3] (.ref 1000 :: st) X Q := w_aload_n (by rfl) rfl (by decide)
set_option maxRecDepth 100000 in
theorem s222_898 {l0 l1 l2 : Value} {z1 : Int} : WP d 222 898 [l0, l1, l2, vI z1] (st) X Q = WP d 222 899 [l0, l1, l2, vI z1] (vI z1 :: st) X Q := w_iload_n (by rfl) rfl
set_option maxRecDepth 100000 in
theorem s222_899 {l0 l1 l2 l3 : Value}  : WP d 222 899 [l0, l1, l2, l3] (st) X Q = WP d 222 900 [l0, l1, l2, l3] (vI (2) :: st) X Q := w_iconst (by rfl)
set_option maxRecDepth 100000 in
theorem s222_900 {l0 l1 l2 l3 : Value} {z1 : Int} {z2 : Int} : WP d 222 900 [l0, l1, l2, l3] (vI z2 :: vI z1 :: st) X Q = WP d 222 901 [l0, l1, l2, l3] (vI (z1 + z2) :: st) X Q := w_iadd (by rfl)
set_option maxRecDepth 100000 in
theorem s222_901 {l0 l1 l2 l3 : Value} {j1 : Int} (hj : 0 ≤ j1 ∧ j1 < (L : Int)) (hm : L ≤ 2147483647) : WP d 222 901 [l0, l1, l2, l3] (vI j1 :: .ref 1000 :: st) (N, L, M) Q = WP d 222 902 [l0, l1, l2, l3] (M 1000 j1.toNat :: st) (N, L, M) Q := w_ialdS (by rfl) hj hm
set_option maxRecDepth 100000 in
theorem c222_902 {l0 l1 l2 l3 : Value} {z1 : Int} {z2 : Int} {r : Int} {X' : q_H} (hN : 0 < N) (hS : Sp d 78 [.ref 0, vI z1, vI z2] (N, L, M) (some (vL r)) X') : WP d 222 902 [l0, l1, l2, l3] (vI z2 :: vI z1 :: .ref 0 :: []) (N, L, M) Q = WP d 222 905 [l0, l1, l2, l3] (vL r :: []) X' Q := w_callv (vs := [vI z1, vI z2]) (by rfl) (by rfl) rfl (Nat.le_of_ble_eq_true rfl) (kd := 8) (by rfl) (by decide) (Or.inl hN) (by rfl) hS
set_option maxRecDepth 100000 in
theorem s222_905 {l0 l1 l3 : Value}  : WP d 222 905 [l0, l1, .ref 82, l3] (st) X Q = WP d 222 906 [l0, l1, .ref 82, l3] (.ref 82 :: st) X Q := w_aload_n (by rfl) rfl (by decide)
set_option maxRecDepth 100000 in
theorem s222_906 {l1 l2 l3 : Value}  : WP d 222 906 [.ref 1000, l1, l2, l3] (st) X Q = WP d 222 907 [.ref 1000, l1, l2, l3] (.ref 1000 :: st) X Q := w_aload_n (by rfl) rfl (by decide)
set_option maxRecDepth 100000 in
theorem s222_907 {l0 l1 l2 : Value} {z1 : Int} : WP d 222 907 [l0, l1, l2, vI z1] (st) X Q = WP d 222 908 [l0, l1, l2, vI z1] (vI z1 :: st) X Q := w_iload_n (by rfl) rfl
set_option maxRecDepth 100000 in
theorem s222_908 {l0 l1 l2 l3 : Value}  : WP d 222 908 [l0, l1, l2, l3] (st) X Q = WP d 222 909 [l0, l1, l2, l3] (vI (1) :: st) X Q := w_iconst (by rfl)
set_option maxRecDepth 100000 in
theorem s222_909 {l0 l1 l2 l3 : Value} {z1 : Int} {z2 : Int} : WP d 222 909 [l0, l1, l2, l3] (vI z2 :: vI z1 :: st) X Q = WP d 222 910 [l0, l1, l2, l3] (vI (z1 + z2) :: st) X Q := w_iadd (by rfl)
set_option maxRecDepth 100000 in
theorem s222_910 {l0 l1 l2 l3 : Value} {j1 : Int} (hj : 0 ≤ j1 ∧ j1 < (L : Int)) (hm : L ≤ 2147483647) : WP d 222 910 [l0, l1, l2, l3] (vI j1 :: .ref 1000 :: st) (N, L, M) Q = WP d 222 911 [l0, l1, l2, l3] (M 1000 j1.toNat :: st) (N, L, M) Q := w_ialdS (by rfl) hj hm
set_option maxRecDepth 100000 in
theorem s222_911 {l1 l2 l3 : Value}  : WP d 222 911 [.ref 1000, l1, l2, l3] (st) X Q = WP d 222 912 [.ref 1000, l1, l2, l3] (.ref 1000 :: st) X Q := w_aload_n (by rfl) rfl (by decide)
set_option maxRecDepth 100000 in
theorem s222_912 {l0 l1 l2 : Value} {z1 : Int} : WP d 222 912 [l0, l1, l2, vI z1] (st) X Q = WP d 222 913 [l0, l1, l2, vI z1] (vI z1 :: st) X Q := w_iload_n (by rfl) rfl
set_option maxRecDepth 100000 in
theorem s222_913 {l0 l1 l2 l3 : Value}  : WP d 222 913 [l0, l1, l2, l3] (st) X Q = WP d 222 914 [l0, l1, l2, l3] (vI (2) :: st) X Q := w_iconst (by rfl)
set_option maxRecDepth 100000 in
theorem s222_914 {l0 l1 l2 l3 : Value} {z1 : Int} {z2 : Int} : WP d 222 914 [l0, l1, l2, l3] (vI z2 :: vI z1 :: st) X Q = WP d 222 915 [l0, l1, l2, l3] (vI (z1 + z2) :: st) X Q := w_iadd (by rfl)
set_option maxRecDepth 100000 in
theorem s222_915 {l0 l1 l2 l3 : Value} {j1 : Int} (hj : 0 ≤ j1 ∧ j1 < (L : Int)) (hm : L ≤ 2147483647) : WP d 222 915 [l0, l1, l2, l3] (vI j1 :: .ref 1000 :: st) (N, L, M) Q = WP d 222 916 [l0, l1, l2, l3] (M 1000 j1.toNat :: st) (N, L, M) Q := w_ialdS (by rfl) hj hm
set_option maxRecDepth 100000 in
theorem c222_916 {l0 l1 l2 l3 : Value} {x0 : Value} {z1 : Int} {z2 : Int} {r : Int} {X' : q_H} (hN : 82 < N) (hS : Sp d 181 [.ref 82, vI z1, vI z2] (N, L, M) (some (vL r)) X') : WP d 222 916 [l0, l1, l2, l3] (vI z2 :: vI z1 :: .ref 82 :: x0 :: []) (N, L, M) Q = WP d 222 919 [l0, l1, l2, l3] (vL r :: x0 :: []) X' Q := w_callv (vs := [vI z1, vI z2]) (by rfl) (by rfl) rfl (Nat.le_of_ble_eq_true rfl) (kd := 9) (by rfl) (by decide) (Or.inl hN) (by rfl) hS
set_option maxRecDepth 100000 in
theorem s222_919 {l0 l1 l2 l3 : Value} {z1 : Int} {z2 : Int} (h1 : -9223372036854775808 ≤ z1 ∧ z1 ≤ 9223372036854775807) (h2 : -9223372036854775808 ≤ z2 ∧ z2 ≤ 9223372036854775807) : WP d 222 919 [l0, l1, l2, l3] (vL z2 :: vL z1 :: st) X Q = WP d 222 920 [l0, l1, l2, l3] (vI (cmpz z1 z2) :: st) X Q := w_lcmp (by rfl) h1 h2
set_option maxRecDepth 100000 in
theorem s222_920 {l0 l1 l2 l3 : Value} {z1 : Int} (h1 : -2147483648 ≤ z1 ∧ z1 ≤ 2147483647) : WP d 222 920 [l0, l1, l2, l3] (vI z1 :: st) X Q = if z1 = 0 then WP d 222 1421 [l0, l1, l2, l3] (st) X Q else WP d 222 923 [l0, l1, l2, l3] (st) X Q := w_ifeq (by rfl) (by decide) h1
set_option maxRecDepth 100000 in
theorem s222_920b {l0 l1 l2 l3 : Value} {P : Prop} [Decidable P] : WP d 222 920 [l0, l1, l2, l3] (vI (bI P) :: st) X Q = if P then WP d 222 923 [l0, l1, l2, l3] (st) X Q else WP d 222 1421 [l0, l1, l2, l3] (st) X Q := w_ifeqb (by rfl) (by decide)
set_option maxRecDepth 100000 in
theorem s222_923 {l0 l1 l2 l3 : Value}  : WP d 222 923 [l0, l1, l2, l3] (st) X Q = WP d 222 924 [l0, l1, l2, l3] (vI (0) :: st) X Q := w_iconst (by rfl)
set_option maxRecDepth 100000 in
theorem s222_924 {l0 l1 l2 l3 : Value} {z1 : Int} (hz : z1 = 0 ∨ z1 = 1) : WP d 222 924 [l0, l1, l2, l3] (vI z1 :: []) X Q = Q (some (vI z1)) X := w_iretz (by rfl) (by rfl) (nb_bool hz)
set_option maxRecDepth 100000 in
theorem s222_924b {l0 l1 l2 l3 : Value} {P : Prop} [Decidable P] : WP d 222 924 [l0, l1, l2, l3] (vI (bI P) :: []) X Q = Q (some (vI (bI P))) X := w_iretz (by rfl) (by rfl) (nb_bool (bI_01 P))
set_option maxRecDepth 100000 in
theorem s222_925 {l0 l2 l3 : Value}  : WP d 222 925 [l0, .ref 0, l2, l3] (st) X Q = WP d 222 926 [l0, .ref 0, l2, l3] (.ref 0 :: st) X Q := w_aload_n (by rfl) rfl (by decide)
set_option maxRecDepth 100000 in
theorem s222_926 {l1 l2 l3 : Value}  : WP d 222 926 [.ref 1000, l1, l2, l3] (st) X Q = WP d 222 927 [.ref 1000, l1, l2, l3] (.ref 1000 :: st) X Q := w_aload_n (by rfl) rfl (by decide)
set_option maxRecDepth 100000 in
theorem s222_927 {l0 l1 l2 : Value} {z1 : Int} : WP d 222 927 [l0, l1, l2, vI z1] (st) X Q = WP d 222 928 [l0, l1, l2, vI z1] (vI z1 :: st) X Q := w_iload_n (by rfl) rfl
set_option maxRecDepth 100000 in
theorem s222_928 {l0 l1 l2 l3 : Value}  : WP d 222 928 [l0, l1, l2, l3] (st) X Q = WP d 222 929 [l0, l1, l2, l3] (vI (1) :: st) X Q := w_iconst (by rfl)
set_option maxRecDepth 100000 in
theorem s222_929 {l0 l1 l2 l3 : Value} {z1 : Int} {z2 : Int} : WP d 222 929 [l0, l1, l2, l3] (vI z2 :: vI z1 :: st) X Q = WP d 222 930 [l0, l1, l2, l3] (vI (z1 + z2) :: st) X Q := w_iadd (by rfl)
set_option maxRecDepth 100000 in
theorem s222_930 {l0 l1 l2 l3 : Value} {j1 : Int} (hj : 0 ≤ j1 ∧ j1 < (L : Int)) (hm : L ≤ 2147483647) : WP d 222 930 [l0, l1, l2, l3] (vI j1 :: .ref 1000 :: st) (N, L, M) Q = WP d 222 931 [l0, l1, l2, l3] (M 1000 j1.toNat :: st) (N, L, M) Q := w_ialdS (by rfl) hj hm
set_option maxRecDepth 100000 in
theorem s222_931 {l1 l2 l3 : Value}  : WP d 222 931 [.ref 1000, l1, l2, l3] (st) X Q = WP d 222 932 [.ref 1000, l1, l2, l3] (.ref 1000 :: st) X Q := w_aload_n (by rfl) rfl (by decide)
set_option maxRecDepth 100000 in
theorem s222_932 {l0 l1 l2 : Value} {z1 : Int} : WP d 222 932 [l0, l1, l2, vI z1] (st) X Q = WP d 222 933 [l0, l1, l2, vI z1] (vI z1 :: st) X Q := w_iload_n (by rfl) rfl
set_option maxRecDepth 100000 in
theorem s222_933 {l0 l1 l2 l3 : Value}  : WP d 222 933 [l0, l1, l2, l3] (st) X Q = WP d 222 934 [l0, l1, l2, l3] (vI (2) :: st) X Q := w_iconst (by rfl)
set_option maxRecDepth 100000 in
theorem s222_934 {l0 l1 l2 l3 : Value} {z1 : Int} {z2 : Int} : WP d 222 934 [l0, l1, l2, l3] (vI z2 :: vI z1 :: st) X Q = WP d 222 935 [l0, l1, l2, l3] (vI (z1 + z2) :: st) X Q := w_iadd (by rfl)
set_option maxRecDepth 100000 in
theorem s222_935 {l0 l1 l2 l3 : Value} {j1 : Int} (hj : 0 ≤ j1 ∧ j1 < (L : Int)) (hm : L ≤ 2147483647) : WP d 222 935 [l0, l1, l2, l3] (vI j1 :: .ref 1000 :: st) (N, L, M) Q = WP d 222 936 [l0, l1, l2, l3] (M 1000 j1.toNat :: st) (N, L, M) Q := w_ialdS (by rfl) hj hm
set_option maxRecDepth 100000 in
theorem c222_936 {l0 l1 l2 l3 : Value} {z1 : Int} {z2 : Int} {r : Int} {X' : q_H} (hN : 0 < N) (hS : Sp d 79 [.ref 0, vI z1, vI z2] (N, L, M) (some (vI r)) X') : WP d 222 936 [l0, l1, l2, l3] (vI z2 :: vI z1 :: .ref 0 :: []) (N, L, M) Q = WP d 222 939 [l0, l1, l2, l3] (vI r :: []) X' Q := w_callv (vs := [vI z1, vI z2]) (by rfl) (by rfl) rfl (Nat.le_of_ble_eq_true rfl) (kd := 8) (by rfl) (by decide) (Or.inl hN) (by rfl) hS
set_option maxRecDepth 100000 in
theorem s222_939 {l0 l1 l3 : Value}  : WP d 222 939 [l0, l1, .ref 82, l3] (st) X Q = WP d 222 940 [l0, l1, .ref 82, l3] (.ref 82 :: st) X Q := w_aload_n (by rfl) rfl (by decide)
set_option maxRecDepth 100000 in
theorem s222_940 {l1 l2 l3 : Value}  : WP d 222 940 [.ref 1000, l1, l2, l3] (st) X Q = WP d 222 941 [.ref 1000, l1, l2, l3] (.ref 1000 :: st) X Q := w_aload_n (by rfl) rfl (by decide)
set_option maxRecDepth 100000 in
theorem s222_941 {l0 l1 l2 : Value} {z1 : Int} : WP d 222 941 [l0, l1, l2, vI z1] (st) X Q = WP d 222 942 [l0, l1, l2, vI z1] (vI z1 :: st) X Q := w_iload_n (by rfl) rfl
set_option maxRecDepth 100000 in
theorem s222_942 {l0 l1 l2 l3 : Value}  : WP d 222 942 [l0, l1, l2, l3] (st) X Q = WP d 222 943 [l0, l1, l2, l3] (vI (1) :: st) X Q := w_iconst (by rfl)
set_option maxRecDepth 100000 in
theorem s222_943 {l0 l1 l2 l3 : Value} {z1 : Int} {z2 : Int} : WP d 222 943 [l0, l1, l2, l3] (vI z2 :: vI z1 :: st) X Q = WP d 222 944 [l0, l1, l2, l3] (vI (z1 + z2) :: st) X Q := w_iadd (by rfl)
set_option maxRecDepth 100000 in
theorem s222_944 {l0 l1 l2 l3 : Value} {j1 : Int} (hj : 0 ≤ j1 ∧ j1 < (L : Int)) (hm : L ≤ 2147483647) : WP d 222 944 [l0, l1, l2, l3] (vI j1 :: .ref 1000 :: st) (N, L, M) Q = WP d 222 945 [l0, l1, l2, l3] (M 1000 j1.toNat :: st) (N, L, M) Q := w_ialdS (by rfl) hj hm
set_option maxRecDepth 100000 in
theorem s222_945 {l1 l2 l3 : Value}  : WP d 222 945 [.ref 1000, l1, l2, l3] (st) X Q = WP d 222 946 [.ref 1000, l1, l2, l3] (.ref 1000 :: st) X Q := w_aload_n (by rfl) rfl (by decide)
set_option maxRecDepth 100000 in
theorem s222_946 {l0 l1 l2 : Value} {z1 : Int} : WP d 222 946 [l0, l1, l2, vI z1] (st) X Q = WP d 222 947 [l0, l1, l2, vI z1] (vI z1 :: st) X Q := w_iload_n (by rfl) rfl
set_option maxRecDepth 100000 in
theorem s222_947 {l0 l1 l2 l3 : Value}  : WP d 222 947 [l0, l1, l2, l3] (st) X Q = WP d 222 948 [l0, l1, l2, l3] (vI (2) :: st) X Q := w_iconst (by rfl)
set_option maxRecDepth 100000 in
theorem s222_948 {l0 l1 l2 l3 : Value} {z1 : Int} {z2 : Int} : WP d 222 948 [l0, l1, l2, l3] (vI z2 :: vI z1 :: st) X Q = WP d 222 949 [l0, l1, l2, l3] (vI (z1 + z2) :: st) X Q := w_iadd (by rfl)
set_option maxRecDepth 100000 in
theorem s222_949 {l0 l1 l2 l3 : Value} {j1 : Int} (hj : 0 ≤ j1 ∧ j1 < (L : Int)) (hm : L ≤ 2147483647) : WP d 222 949 [l0, l1, l2, l3] (vI j1 :: .ref 1000 :: st) (N, L, M) Q = WP d 222 950 [l0, l1, l2, l3] (M 1000 j1.toNat :: st) (N, L, M) Q := w_ialdS (by rfl) hj hm
set_option maxRecDepth 100000 in
theorem c222_950 {l0 l1 l2 l3 : Value} {x0 : Value} {z1 : Int} {z2 : Int} {r : Int} {X' : q_H} (hN : 82 < N) (hS : Sp d 182 [.ref 82, vI z1, vI z2] (N, L, M) (some (vI r)) X') : WP d 222 950 [l0, l1, l2, l3] (vI z2 :: vI z1 :: .ref 82 :: x0 :: []) (N, L, M) Q = WP d 222 953 [l0, l1, l2, l3] (vI r :: x0 :: []) X' Q := w_callv (vs := [vI z1, vI z2]) (by rfl) (by rfl) rfl (Nat.le_of_ble_eq_true rfl) (kd := 9) (by rfl) (by decide) (Or.inl hN) (by rfl) hS
set_option maxRecDepth 100000 in
theorem s222_953 {l0 l1 l2 l3 : Value} {z1 : Int} {z2 : Int} (h1 : -2147483648 ≤ z1 ∧ z1 ≤ 2147483647) (h2 : -2147483648 ≤ z2 ∧ z2 ≤ 2147483647) : WP d 222 953 [l0, l1, l2, l3] (vI z2 :: vI z1 :: st) X Q = if z1 = z2 then WP d 222 1421 [l0, l1, l2, l3] (st) X Q else WP d 222 956 [l0, l1, l2, l3] (st) X Q := w_icmpeq (by rfl) (by decide) h1 h2
set_option maxRecDepth 100000 in
theorem s222_953b {l0 l1 l2 l3 : Value} {P R : Prop} [Decidable P] [Decidable R] : WP d 222 953 [l0, l1, l2, l3] (vI (bI R) :: vI (bI P) :: st) X Q = if (P ↔ R) then WP d 222 1421 [l0, l1, l2, l3] (st) X Q else WP d 222 956 [l0, l1, l2, l3] (st) X Q := w_icmpeqb (by rfl) (by decide)
set_option maxRecDepth 100000 in
theorem s222_956 {l0 l1 l2 l3 : Value}  : WP d 222 956 [l0, l1, l2, l3] (st) X Q = WP d 222 957 [l0, l1, l2, l3] (vI (0) :: st) X Q := w_iconst (by rfl)
set_option maxRecDepth 100000 in
theorem s222_957 {l0 l1 l2 l3 : Value} {z1 : Int} (hz : z1 = 0 ∨ z1 = 1) : WP d 222 957 [l0, l1, l2, l3] (vI z1 :: []) X Q = Q (some (vI z1)) X := w_iretz (by rfl) (by rfl) (nb_bool hz)
set_option maxRecDepth 100000 in
theorem s222_957b {l0 l1 l2 l3 : Value} {P : Prop} [Decidable P] : WP d 222 957 [l0, l1, l2, l3] (vI (bI P) :: []) X Q = Q (some (vI (bI P))) X := w_iretz (by rfl) (by rfl) (nb_bool (bI_01 P))
set_option maxRecDepth 100000 in
theorem s222_958 {l0 l2 l3 : Value}  : WP d 222 958 [l0, .ref 0, l2, l3] (st) X Q = WP d 222 959 [l0, .ref 0, l2, l3] (.ref 0 :: st) X Q := w_aload_n (by rfl) rfl (by decide)
set_option maxRecDepth 100000 in
theorem s222_959 {l1 l2 l3 : Value}  : WP d 222 959 [.ref 1000, l1, l2, l3] (st) X Q = WP d 222 960 [.ref 1000, l1, l2, l3] (.ref 1000 :: st) X Q := w_aload_n (by rfl) rfl (by decide)
set_option maxRecDepth 100000 in
theorem s222_960 {l0 l1 l2 : Value} {z1 : Int} : WP d 222 960 [l0, l1, l2, vI z1] (st) X Q = WP d 222 961 [l0, l1, l2, vI z1] (vI z1 :: st) X Q := w_iload_n (by rfl) rfl
set_option maxRecDepth 100000 in
theorem s222_961 {l0 l1 l2 l3 : Value}  : WP d 222 961 [l0, l1, l2, l3] (st) X Q = WP d 222 962 [l0, l1, l2, l3] (vI (1) :: st) X Q := w_iconst (by rfl)
set_option maxRecDepth 100000 in
theorem s222_962 {l0 l1 l2 l3 : Value} {z1 : Int} {z2 : Int} : WP d 222 962 [l0, l1, l2, l3] (vI z2 :: vI z1 :: st) X Q = WP d 222 963 [l0, l1, l2, l3] (vI (z1 + z2) :: st) X Q := w_iadd (by rfl)
set_option maxRecDepth 100000 in
theorem s222_963 {l0 l1 l2 l3 : Value} {j1 : Int} (hj : 0 ≤ j1 ∧ j1 < (L : Int)) (hm : L ≤ 2147483647) : WP d 222 963 [l0, l1, l2, l3] (vI j1 :: .ref 1000 :: st) (N, L, M) Q = WP d 222 964 [l0, l1, l2, l3] (M 1000 j1.toNat :: st) (N, L, M) Q := w_ialdS (by rfl) hj hm
set_option maxRecDepth 100000 in
theorem c222_964 {l0 l1 l2 l3 : Value} {z1 : Int} {r : Int} {X' : q_H} (hN : 0 < N) (hS : Sp d 80 [.ref 0, vI z1] (N, L, M) (some (vI r)) X') : WP d 222 964 [l0, l1, l2, l3] (vI z1 :: .ref 0 :: []) (N, L, M) Q = WP d 222 967 [l0, l1, l2, l3] (vI r :: []) X' Q := w_callv (vs := [vI z1]) (by rfl) (by rfl) rfl (Nat.le_of_ble_eq_true rfl) (kd := 8) (by rfl) (by decide) (Or.inl hN) (by rfl) hS
set_option maxRecDepth 100000 in
theorem s222_967 {l0 l1 l3 : Value}  : WP d 222 967 [l0, l1, .ref 82, l3] (st) X Q = WP d 222 968 [l0, l1, .ref 82, l3] (.ref 82 :: st) X Q := w_aload_n (by rfl) rfl (by decide)
set_option maxRecDepth 100000 in
theorem s222_968 {l1 l2 l3 : Value}  : WP d 222 968 [.ref 1000, l1, l2, l3] (st) X Q = WP d 222 969 [.ref 1000, l1, l2, l3] (.ref 1000 :: st) X Q := w_aload_n (by rfl) rfl (by decide)
set_option maxRecDepth 100000 in
theorem s222_969 {l0 l1 l2 : Value} {z1 : Int} : WP d 222 969 [l0, l1, l2, vI z1] (st) X Q = WP d 222 970 [l0, l1, l2, vI z1] (vI z1 :: st) X Q := w_iload_n (by rfl) rfl
set_option maxRecDepth 100000 in
theorem s222_970 {l0 l1 l2 l3 : Value}  : WP d 222 970 [l0, l1, l2, l3] (st) X Q = WP d 222 971 [l0, l1, l2, l3] (vI (1) :: st) X Q := w_iconst (by rfl)
set_option maxRecDepth 100000 in
theorem s222_971 {l0 l1 l2 l3 : Value} {z1 : Int} {z2 : Int} : WP d 222 971 [l0, l1, l2, l3] (vI z2 :: vI z1 :: st) X Q = WP d 222 972 [l0, l1, l2, l3] (vI (z1 + z2) :: st) X Q := w_iadd (by rfl)
set_option maxRecDepth 100000 in
theorem s222_972 {l0 l1 l2 l3 : Value} {j1 : Int} (hj : 0 ≤ j1 ∧ j1 < (L : Int)) (hm : L ≤ 2147483647) : WP d 222 972 [l0, l1, l2, l3] (vI j1 :: .ref 1000 :: st) (N, L, M) Q = WP d 222 973 [l0, l1, l2, l3] (M 1000 j1.toNat :: st) (N, L, M) Q := w_ialdS (by rfl) hj hm
set_option maxRecDepth 100000 in
theorem c222_973 {l0 l1 l2 l3 : Value} {x0 : Value} {z1 : Int} {r : Int} {X' : q_H} (hN : 82 < N) (hS : Sp d 183 [.ref 82, vI z1] (N, L, M) (some (vI r)) X') : WP d 222 973 [l0, l1, l2, l3] (vI z1 :: .ref 82 :: x0 :: []) (N, L, M) Q = WP d 222 976 [l0, l1, l2, l3] (vI r :: x0 :: []) X' Q := w_callv (vs := [vI z1]) (by rfl) (by rfl) rfl (Nat.le_of_ble_eq_true rfl) (kd := 9) (by rfl) (by decide) (Or.inl hN) (by rfl) hS
set_option maxRecDepth 100000 in
theorem s222_976 {l0 l1 l2 l3 : Value} {z1 : Int} {z2 : Int} (h1 : -2147483648 ≤ z1 ∧ z1 ≤ 2147483647) (h2 : -2147483648 ≤ z2 ∧ z2 ≤ 2147483647) : WP d 222 976 [l0, l1, l2, l3] (vI z2 :: vI z1 :: st) X Q = if z1 = z2 then WP d 222 1421 [l0, l1, l2, l3] (st) X Q else WP d 222 979 [l0, l1, l2, l3] (st) X Q := w_icmpeq (by rfl) (by decide) h1 h2
set_option maxRecDepth 100000 in
theorem s222_976b {l0 l1 l2 l3 : Value} {P R : Prop} [Decidable P] [Decidable R] : WP d 222 976 [l0, l1, l2, l3] (vI (bI R) :: vI (bI P) :: st) X Q = if (P ↔ R) then WP d 222 1421 [l0, l1, l2, l3] (st) X Q else WP d 222 979 [l0, l1, l2, l3] (st) X Q := w_icmpeqb (by rfl) (by decide)
set_option maxRecDepth 100000 in
theorem s222_979 {l0 l1 l2 l3 : Value}  : WP d 222 979 [l0, l1, l2, l3] (st) X Q = WP d 222 980 [l0, l1, l2, l3] (vI (0) :: st) X Q := w_iconst (by rfl)
set_option maxRecDepth 100000 in
theorem s222_980 {l0 l1 l2 l3 : Value} {z1 : Int} (hz : z1 = 0 ∨ z1 = 1) : WP d 222 980 [l0, l1, l2, l3] (vI z1 :: []) X Q = Q (some (vI z1)) X := w_iretz (by rfl) (by rfl) (nb_bool hz)
set_option maxRecDepth 100000 in
theorem s222_980b {l0 l1 l2 l3 : Value} {P : Prop} [Decidable P] : WP d 222 980 [l0, l1, l2, l3] (vI (bI P) :: []) X Q = Q (some (vI (bI P))) X := w_iretz (by rfl) (by rfl) (nb_bool (bI_01 P))
set_option maxRecDepth 100000 in
theorem s222_981 {l0 l2 l3 : Value}  : WP d 222 981 [l0, .ref 0, l2, l3] (st) X Q = WP d 222 982 [l0, .ref 0, l2, l3] (.ref 0 :: st) X Q := w_aload_n (by rfl) rfl (by decide)
set_option maxRecDepth 100000 in
theorem s222_982 {l1 l2 l3 : Value}  : WP d 222 982 [.ref 1000, l1, l2, l3] (st) X Q = WP d 222 983 [.ref 1000, l1, l2, l3] (.ref 1000 :: st) X Q := w_aload_n (by rfl) rfl (by decide)
set_option maxRecDepth 100000 in
theorem s222_983 {l0 l1 l2 : Value} {z1 : Int} : WP d 222 983 [l0, l1, l2, vI z1] (st) X Q = WP d 222 984 [l0, l1, l2, vI z1] (vI z1 :: st) X Q := w_iload_n (by rfl) rfl
set_option maxRecDepth 100000 in
theorem s222_984 {l0 l1 l2 l3 : Value}  : WP d 222 984 [l0, l1, l2, l3] (st) X Q = WP d 222 985 [l0, l1, l2, l3] (vI (1) :: st) X Q := w_iconst (by rfl)
set_option maxRecDepth 100000 in
theorem s222_985 {l0 l1 l2 l3 : Value} {z1 : Int} {z2 : Int} : WP d 222 985 [l0, l1, l2, l3] (vI z2 :: vI z1 :: st) X Q = WP d 222 986 [l0, l1, l2, l3] (vI (z1 + z2) :: st) X Q := w_iadd (by rfl)
set_option maxRecDepth 100000 in
theorem s222_986 {l0 l1 l2 l3 : Value} {j1 : Int} (hj : 0 ≤ j1 ∧ j1 < (L : Int)) (hm : L ≤ 2147483647) : WP d 222 986 [l0, l1, l2, l3] (vI j1 :: .ref 1000 :: st) (N, L, M) Q = WP d 222 987 [l0, l1, l2, l3] (M 1000 j1.toNat :: st) (N, L, M) Q := w_ialdS (by rfl) hj hm
set_option maxRecDepth 100000 in
theorem s222_987 {l1 l2 l3 : Value}  : WP d 222 987 [.ref 1000, l1, l2, l3] (st) X Q = WP d 222 988 [.ref 1000, l1, l2, l3] (.ref 1000 :: st) X Q := w_aload_n (by rfl) rfl (by decide)
set_option maxRecDepth 100000 in
theorem s222_988 {l0 l1 l2 : Value} {z1 : Int} : WP d 222 988 [l0, l1, l2, vI z1] (st) X Q = WP d 222 989 [l0, l1, l2, vI z1] (vI z1 :: st) X Q := w_iload_n (by rfl) rfl
set_option maxRecDepth 100000 in
theorem s222_989 {l0 l1 l2 l3 : Value}  : WP d 222 989 [l0, l1, l2, l3] (st) X Q = WP d 222 990 [l0, l1, l2, l3] (vI (2) :: st) X Q := w_iconst (by rfl)
set_option maxRecDepth 100000 in
theorem s222_990 {l0 l1 l2 l3 : Value} {z1 : Int} {z2 : Int} : WP d 222 990 [l0, l1, l2, l3] (vI z2 :: vI z1 :: st) X Q = WP d 222 991 [l0, l1, l2, l3] (vI (z1 + z2) :: st) X Q := w_iadd (by rfl)
set_option maxRecDepth 100000 in
theorem s222_991 {l0 l1 l2 l3 : Value} {j1 : Int} (hj : 0 ≤ j1 ∧ j1 < (L : Int)) (hm : L ≤ 2147483647) : WP d 222 991 [l0, l1, l2, l3] (vI j1 :: .ref 1000 :: st) (N, L, M) Q = WP d 222 992 [l0, l1, l2, l3] (M 1000 j1.toNat :: st) (N, L, M) Q := w_ialdS (by rfl) hj hm
set_option maxRecDepth 100000 in
theorem c222_992 {l0 l1 l2 l3 : Value} {z1 : Int} {z2 : Int} {r : Int} {X' : q_H} (hN : 0 < N) (hS : Sp d 81 [.ref 0, vI z1, vI z2] (N, L, M) (some (vI r)) X') : WP d 222 992 [l0, l1, l2, l3] (vI z2 :: vI z1 :: .ref 0 :: []) (N, L, M) Q = WP d 222 995 [l0, l1, l2, l3] (vI r :: []) X' Q := w_callv (vs := [vI z1, vI z2]) (by rfl) (by rfl) rfl (Nat.le_of_ble_eq_true rfl) (kd := 8) (by rfl) (by decide) (Or.inl hN) (by rfl) hS
set_option maxRecDepth 100000 in
theorem s222_995 {l0 l1 l3 : Value}  : WP d 222 995 [l0, l1, .ref 82, l3] (st) X Q = WP d 222 996 [l0, l1, .ref 82, l3] (.ref 82 :: st) X Q := w_aload_n (by rfl) rfl (by decide)
set_option maxRecDepth 100000 in
theorem s222_996 {l1 l2 l3 : Value}  : WP d 222 996 [.ref 1000, l1, l2, l3] (st) X Q = WP d 222 997 [.ref 1000, l1, l2, l3] (.ref 1000 :: st) X Q := w_aload_n (by rfl) rfl (by decide)
set_option maxRecDepth 100000 in
theorem s222_997 {l0 l1 l2 : Value} {z1 : Int} : WP d 222 997 [l0, l1, l2, vI z1] (st) X Q = WP d 222 998 [l0, l1, l2, vI z1] (vI z1 :: st) X Q := w_iload_n (by rfl) rfl
set_option maxRecDepth 100000 in
theorem s222_998 {l0 l1 l2 l3 : Value}  : WP d 222 998 [l0, l1, l2, l3] (st) X Q = WP d 222 999 [l0, l1, l2, l3] (vI (1) :: st) X Q := w_iconst (by rfl)
set_option maxRecDepth 100000 in
theorem s222_999 {l0 l1 l2 l3 : Value} {z1 : Int} {z2 : Int} : WP d 222 999 [l0, l1, l2, l3] (vI z2 :: vI z1 :: st) X Q = WP d 222 1000 [l0, l1, l2, l3] (vI (z1 + z2) :: st) X Q := w_iadd (by rfl)
set_option maxRecDepth 100000 in
theorem s222_1000 {l0 l1 l2 l3 : Value} {j1 : Int} (hj : 0 ≤ j1 ∧ j1 < (L : Int)) (hm : L ≤ 2147483647) : WP d 222 1000 [l0, l1, l2, l3] (vI j1 :: .ref 1000 :: st) (N, L, M) Q = WP d 222 1001 [l0, l1, l2, l3] (M 1000 j1.toNat :: st) (N, L, M) Q := w_ialdS (by rfl) hj hm
set_option maxRecDepth 100000 in
theorem s222_1001 {l1 l2 l3 : Value}  : WP d 222 1001 [.ref 1000, l1, l2, l3] (st) X Q = WP d 222 1002 [.ref 1000, l1, l2, l3] (.ref 1000 :: st) X Q := w_aload_n (by rfl) rfl (by decide)
set_option maxRecDepth 100000 in
theorem s222_1002 {l0 l1 l2 : Value} {z1 : Int} : WP d 222 1002 [l0, l1, l2, vI z1] (st) X Q = WP d 222 1003 [l0, l1, l2, vI z1] (vI z1 :: st) X Q := w_iload_n (by rfl) rfl
set_option maxRecDepth 100000 in
theorem s222_1003 {l0 l1 l2 l3 : Value}  : WP d 222 1003 [l0, l1, l2, l3] (st) X Q = WP d 222 1004 [l0, l1, l2, l3] (vI (2) :: st) X Q := w_iconst (by rfl)
set_option maxRecDepth 100000 in
theorem s222_1004 {l0 l1 l2 l3 : Value} {z1 : Int} {z2 : Int} : WP d 222 1004 [l0, l1, l2, l3] (vI z2 :: vI z1 :: st) X Q = WP d 222 1005 [l0, l1, l2, l3] (vI (z1 + z2) :: st) X Q := w_iadd (by rfl)
set_option maxRecDepth 100000 in
theorem s222_1005 {l0 l1 l2 l3 : Value} {j1 : Int} (hj : 0 ≤ j1 ∧ j1 < (L : Int)) (hm : L ≤ 2147483647) : WP d 222 1005 [l0, l1, l2, l3] (vI j1 :: .ref 1000 :: st) (N, L, M) Q = WP d 222 1006 [l0, l1, l2, l3] (M 1000 j1.toNat :: st) (N, L, M) Q := w_ialdS (by rfl) hj hm
set_option maxRecDepth 100000 in
theorem c222_1006 {l0 l1 l2 l3 : Value} {x0 : Value} {z1 : Int} {z2 : Int} {r : Int} {X' : q_H} (hN : 82 < N) (hS : Sp d 184 [.ref 82, vI z1, vI z2] (N, L, M) (some (vI r)) X') : WP d 222 1006 [l0, l1, l2, l3] (vI z2 :: vI z1 :: .ref 82 :: x0 :: []) (N, L, M) Q = WP d 222 1009 [l0, l1, l2, l3] (vI r :: x0 :: []) X' Q := w_callv (vs := [vI z1, vI z2]) (by rfl) (by rfl) rfl (Nat.le_of_ble_eq_true rfl) (kd := 9) (by rfl) (by decide) (Or.inl hN) (by rfl) hS
set_option maxRecDepth 100000 in
theorem s222_1009 {l0 l1 l2 l3 : Value} {z1 : Int} {z2 : Int} (h1 : -2147483648 ≤ z1 ∧ z1 ≤ 2147483647) (h2 : -2147483648 ≤ z2 ∧ z2 ≤ 2147483647) : WP d 222 1009 [l0, l1, l2, l3] (vI z2 :: vI z1 :: st) X Q = if z1 = z2 then WP d 222 1421 [l0, l1, l2, l3] (st) X Q else WP d 222 1012 [l0, l1, l2, l3] (st) X Q := w_icmpeq (by rfl) (by decide) h1 h2
set_option maxRecDepth 100000 in
theorem s222_1009b {l0 l1 l2 l3 : Value} {P R : Prop} [Decidable P] [Decidable R] : WP d 222 1009 [l0, l1, l2, l3] (vI (bI R) :: vI (bI P) :: st) X Q = if (P ↔ R) then WP d 222 1421 [l0, l1, l2, l3] (st) X Q else WP d 222 1012 [l0, l1, l2, l3] (st) X Q := w_icmpeqb (by rfl) (by decide)
set_option maxRecDepth 100000 in
theorem s222_1012 {l0 l1 l2 l3 : Value}  : WP d 222 1012 [l0, l1, l2, l3] (st) X Q = WP d 222 1013 [l0, l1, l2, l3] (vI (0) :: st) X Q := w_iconst (by rfl)
set_option maxRecDepth 100000 in
theorem s222_1013 {l0 l1 l2 l3 : Value} {z1 : Int} (hz : z1 = 0 ∨ z1 = 1) : WP d 222 1013 [l0, l1, l2, l3] (vI z1 :: []) X Q = Q (some (vI z1)) X := w_iretz (by rfl) (by rfl) (nb_bool hz)
set_option maxRecDepth 100000 in
theorem s222_1013b {l0 l1 l2 l3 : Value} {P : Prop} [Decidable P] : WP d 222 1013 [l0, l1, l2, l3] (vI (bI P) :: []) X Q = Q (some (vI (bI P))) X := w_iretz (by rfl) (by rfl) (nb_bool (bI_01 P))
set_option maxRecDepth 100000 in
theorem s222_1014 {l0 l2 l3 : Value}  : WP d 222 1014 [l0, .ref 0, l2, l3] (st) X Q = WP d 222 1015 [l0, .ref 0, l2, l3] (.ref 0 :: st) X Q := w_aload_n (by rfl) rfl (by decide)
set_option maxRecDepth 100000 in
theorem c222_1015 {l0 l1 l2 l3 : Value} {r : Int} {X' : q_H} (hN : 0 < N) (hS : Sp d 82 [.ref 0] (N, L, M) (some (vI r)) X') : WP d 222 1015 [l0, l1, l2, l3] (.ref 0 :: []) (N, L, M) Q = WP d 222 1018 [l0, l1, l2, l3] (vI r :: []) X' Q := w_callv (vs := []) (by rfl) (by rfl) rfl (Nat.le_of_ble_eq_true rfl) (kd := 8) (by rfl) (by decide) (Or.inl hN) (by rfl) hS
set_option maxRecDepth 100000 in
theorem s222_1018 {l0 l1 l3 : Value}  : WP d 222 1018 [l0, l1, .ref 82, l3] (st) X Q = WP d 222 1019 [l0, l1, .ref 82, l3] (.ref 82 :: st) X Q := w_aload_n (by rfl) rfl (by decide)
set_option maxRecDepth 100000 in
theorem c222_1019 {l0 l1 l2 l3 : Value} {x0 : Value} {r : Int} {X' : q_H} (hN : 82 < N) (hS : Sp d 185 [.ref 82] (N, L, M) (some (vI r)) X') : WP d 222 1019 [l0, l1, l2, l3] (.ref 82 :: x0 :: []) (N, L, M) Q = WP d 222 1022 [l0, l1, l2, l3] (vI r :: x0 :: []) X' Q := w_callv (vs := []) (by rfl) (by rfl) rfl (Nat.le_of_ble_eq_true rfl) (kd := 9) (by rfl) (by decide) (Or.inl hN) (by rfl) hS
set_option maxRecDepth 100000 in
theorem s222_1022 {l0 l1 l2 l3 : Value} {z1 : Int} {z2 : Int} (h1 : -2147483648 ≤ z1 ∧ z1 ≤ 2147483647) (h2 : -2147483648 ≤ z2 ∧ z2 ≤ 2147483647) : WP d 222 1022 [l0, l1, l2, l3] (vI z2 :: vI z1 :: st) X Q = if z1 = z2 then WP d 222 1421 [l0, l1, l2, l3] (st) X Q else WP d 222 1025 [l0, l1, l2, l3] (st) X Q := w_icmpeq (by rfl) (by decide) h1 h2
set_option maxRecDepth 100000 in
theorem s222_1022b {l0 l1 l2 l3 : Value} {P R : Prop} [Decidable P] [Decidable R] : WP d 222 1022 [l0, l1, l2, l3] (vI (bI R) :: vI (bI P) :: st) X Q = if (P ↔ R) then WP d 222 1421 [l0, l1, l2, l3] (st) X Q else WP d 222 1025 [l0, l1, l2, l3] (st) X Q := w_icmpeqb (by rfl) (by decide)
set_option maxRecDepth 100000 in
theorem s222_1025 {l0 l1 l2 l3 : Value}  : WP d 222 1025 [l0, l1, l2, l3] (st) X Q = WP d 222 1026 [l0, l1, l2, l3] (vI (0) :: st) X Q := w_iconst (by rfl)
set_option maxRecDepth 100000 in
theorem s222_1026 {l0 l1 l2 l3 : Value} {z1 : Int} (hz : z1 = 0 ∨ z1 = 1) : WP d 222 1026 [l0, l1, l2, l3] (vI z1 :: []) X Q = Q (some (vI z1)) X := w_iretz (by rfl) (by rfl) (nb_bool hz)
set_option maxRecDepth 100000 in
theorem s222_1026b {l0 l1 l2 l3 : Value} {P : Prop} [Decidable P] : WP d 222 1026 [l0, l1, l2, l3] (vI (bI P) :: []) X Q = Q (some (vI (bI P))) X := w_iretz (by rfl) (by rfl) (nb_bool (bI_01 P))
set_option maxRecDepth 100000 in
theorem s222_1027 {l0 l2 l3 : Value}  : WP d 222 1027 [l0, .ref 0, l2, l3] (st) X Q = WP d 222 1028 [l0, .ref 0, l2, l3] (.ref 0 :: st) X Q := w_aload_n (by rfl) rfl (by decide)
set_option maxRecDepth 100000 in
theorem s222_1028 {l1 l2 l3 : Value}  : WP d 222 1028 [.ref 1000, l1, l2, l3] (st) X Q = WP d 222 1029 [.ref 1000, l1, l2, l3] (.ref 1000 :: st) X Q := w_aload_n (by rfl) rfl (by decide)
set_option maxRecDepth 100000 in
theorem s222_1029 {l0 l1 l2 : Value} {z1 : Int} : WP d 222 1029 [l0, l1, l2, vI z1] (st) X Q = WP d 222 1030 [l0, l1, l2, vI z1] (vI z1 :: st) X Q := w_iload_n (by rfl) rfl
set_option maxRecDepth 100000 in
theorem s222_1030 {l0 l1 l2 l3 : Value}  : WP d 222 1030 [l0, l1, l2, l3] (st) X Q = WP d 222 1031 [l0, l1, l2, l3] (vI (1) :: st) X Q := w_iconst (by rfl)
set_option maxRecDepth 100000 in
theorem s222_1031 {l0 l1 l2 l3 : Value} {z1 : Int} {z2 : Int} : WP d 222 1031 [l0, l1, l2, l3] (vI z2 :: vI z1 :: st) X Q = WP d 222 1032 [l0, l1, l2, l3] (vI (z1 + z2) :: st) X Q := w_iadd (by rfl)
set_option maxRecDepth 100000 in
theorem s222_1032 {l0 l1 l2 l3 : Value} {j1 : Int} (hj : 0 ≤ j1 ∧ j1 < (L : Int)) (hm : L ≤ 2147483647) : WP d 222 1032 [l0, l1, l2, l3] (vI j1 :: .ref 1000 :: st) (N, L, M) Q = WP d 222 1033 [l0, l1, l2, l3] (M 1000 j1.toNat :: st) (N, L, M) Q := w_ialdS (by rfl) hj hm
set_option maxRecDepth 100000 in
theorem s222_1033 {l1 l2 l3 : Value}  : WP d 222 1033 [.ref 1000, l1, l2, l3] (st) X Q = WP d 222 1034 [.ref 1000, l1, l2, l3] (.ref 1000 :: st) X Q := w_aload_n (by rfl) rfl (by decide)
set_option maxRecDepth 100000 in
theorem s222_1034 {l0 l1 l2 : Value} {z1 : Int} : WP d 222 1034 [l0, l1, l2, vI z1] (st) X Q = WP d 222 1035 [l0, l1, l2, vI z1] (vI z1 :: st) X Q := w_iload_n (by rfl) rfl
set_option maxRecDepth 100000 in
theorem s222_1035 {l0 l1 l2 l3 : Value}  : WP d 222 1035 [l0, l1, l2, l3] (st) X Q = WP d 222 1036 [l0, l1, l2, l3] (vI (2) :: st) X Q := w_iconst (by rfl)
set_option maxRecDepth 100000 in
theorem s222_1036 {l0 l1 l2 l3 : Value} {z1 : Int} {z2 : Int} : WP d 222 1036 [l0, l1, l2, l3] (vI z2 :: vI z1 :: st) X Q = WP d 222 1037 [l0, l1, l2, l3] (vI (z1 + z2) :: st) X Q := w_iadd (by rfl)
set_option maxRecDepth 100000 in
theorem s222_1037 {l0 l1 l2 l3 : Value} {j1 : Int} (hj : 0 ≤ j1 ∧ j1 < (L : Int)) (hm : L ≤ 2147483647) : WP d 222 1037 [l0, l1, l2, l3] (vI j1 :: .ref 1000 :: st) (N, L, M) Q = WP d 222 1038 [l0, l1, l2, l3] (M 1000 j1.toNat :: st) (N, L, M) Q := w_ialdS (by rfl) hj hm
set_option maxRecDepth 100000 in
theorem c222_1038 {l0 l1 l2 l3 : Value} {z1 : Int} {z2 : Int} {r : Int} {X' : q_H} (hN : 0 < N) (hS : Sp d 83 [.ref 0, vI z1, vI z2] (N, L, M) (some (vI r)) X') : WP d 222 1038 [l0, l1, l2, l3] (vI z2 :: vI z1 :: .ref 0 :: []) (N, L, M) Q = WP d 222 1041 [l0, l1, l2, l3] (vI r :: []) X' Q := w_callv (vs := [vI z1, vI z2]) (by rfl) (by rfl) rfl (Nat.le_of_ble_eq_true rfl) (kd := 8) (by rfl) (by decide) (Or.inl hN) (by rfl) hS
set_option maxRecDepth 100000 in
theorem s222_1041 {l0 l1 l3 : Value}  : WP d 222 1041 [l0, l1, .ref 82, l3] (st) X Q = WP d 222 1042 [l0, l1, .ref 82, l3] (.ref 82 :: st) X Q := w_aload_n (by rfl) rfl (by decide)
set_option maxRecDepth 100000 in
theorem s222_1042 {l1 l2 l3 : Value}  : WP d 222 1042 [.ref 1000, l1, l2, l3] (st) X Q = WP d 222 1043 [.ref 1000, l1, l2, l3] (.ref 1000 :: st) X Q := w_aload_n (by rfl) rfl (by decide)
set_option maxRecDepth 100000 in
theorem s222_1043 {l0 l1 l2 : Value} {z1 : Int} : WP d 222 1043 [l0, l1, l2, vI z1] (st) X Q = WP d 222 1044 [l0, l1, l2, vI z1] (vI z1 :: st) X Q := w_iload_n (by rfl) rfl
set_option maxRecDepth 100000 in
theorem s222_1044 {l0 l1 l2 l3 : Value}  : WP d 222 1044 [l0, l1, l2, l3] (st) X Q = WP d 222 1045 [l0, l1, l2, l3] (vI (1) :: st) X Q := w_iconst (by rfl)
set_option maxRecDepth 100000 in
theorem s222_1045 {l0 l1 l2 l3 : Value} {z1 : Int} {z2 : Int} : WP d 222 1045 [l0, l1, l2, l3] (vI z2 :: vI z1 :: st) X Q = WP d 222 1046 [l0, l1, l2, l3] (vI (z1 + z2) :: st) X Q := w_iadd (by rfl)
set_option maxRecDepth 100000 in
theorem s222_1046 {l0 l1 l2 l3 : Value} {j1 : Int} (hj : 0 ≤ j1 ∧ j1 < (L : Int)) (hm : L ≤ 2147483647) : WP d 222 1046 [l0, l1, l2, l3] (vI j1 :: .ref 1000 :: st) (N, L, M) Q = WP d 222 1047 [l0, l1, l2, l3] (M 1000 j1.toNat :: st) (N, L, M) Q := w_ialdS (by rfl) hj hm
set_option maxRecDepth 100000 in
theorem s222_1047 {l1 l2 l3 : Value}  : WP d 222 1047 [.ref 1000, l1, l2, l3] (st) X Q = WP d 222 1048 [.ref 1000, l1, l2, l3] (.ref 1000 :: st) X Q := w_aload_n (by rfl) rfl (by decide)
set_option maxRecDepth 100000 in
theorem s222_1048 {l0 l1 l2 : Value} {z1 : Int} : WP d 222 1048 [l0, l1, l2, vI z1] (st) X Q = WP d 222 1049 [l0, l1, l2, vI z1] (vI z1 :: st) X Q := w_iload_n (by rfl) rfl
set_option maxRecDepth 100000 in
theorem s222_1049 {l0 l1 l2 l3 : Value}  : WP d 222 1049 [l0, l1, l2, l3] (st) X Q = WP d 222 1050 [l0, l1, l2, l3] (vI (2) :: st) X Q := w_iconst (by rfl)
set_option maxRecDepth 100000 in
theorem s222_1050 {l0 l1 l2 l3 : Value} {z1 : Int} {z2 : Int} : WP d 222 1050 [l0, l1, l2, l3] (vI z2 :: vI z1 :: st) X Q = WP d 222 1051 [l0, l1, l2, l3] (vI (z1 + z2) :: st) X Q := w_iadd (by rfl)
set_option maxRecDepth 100000 in
theorem s222_1051 {l0 l1 l2 l3 : Value} {j1 : Int} (hj : 0 ≤ j1 ∧ j1 < (L : Int)) (hm : L ≤ 2147483647) : WP d 222 1051 [l0, l1, l2, l3] (vI j1 :: .ref 1000 :: st) (N, L, M) Q = WP d 222 1052 [l0, l1, l2, l3] (M 1000 j1.toNat :: st) (N, L, M) Q := w_ialdS (by rfl) hj hm
set_option maxRecDepth 100000 in
theorem c222_1052 {l0 l1 l2 l3 : Value} {x0 : Value} {z1 : Int} {z2 : Int} {r : Int} {X' : q_H} (hN : 82 < N) (hS : Sp d 186 [.ref 82, vI z1, vI z2] (N, L, M) (some (vI r)) X') : WP d 222 1052 [l0, l1, l2, l3] (vI z2 :: vI z1 :: .ref 82 :: x0 :: []) (N, L, M) Q = WP d 222 1055 [l0, l1, l2, l3] (vI r :: x0 :: []) X' Q := w_callv (vs := [vI z1, vI z2]) (by rfl) (by rfl) rfl (Nat.le_of_ble_eq_true rfl) (kd := 9) (by rfl) (by decide) (Or.inl hN) (by rfl) hS
set_option maxRecDepth 100000 in
theorem s222_1055 {l0 l1 l2 l3 : Value} {z1 : Int} {z2 : Int} (h1 : -2147483648 ≤ z1 ∧ z1 ≤ 2147483647) (h2 : -2147483648 ≤ z2 ∧ z2 ≤ 2147483647) : WP d 222 1055 [l0, l1, l2, l3] (vI z2 :: vI z1 :: st) X Q = if z1 = z2 then WP d 222 1421 [l0, l1, l2, l3] (st) X Q else WP d 222 1058 [l0, l1, l2, l3] (st) X Q := w_icmpeq (by rfl) (by decide) h1 h2
set_option maxRecDepth 100000 in
theorem s222_1055b {l0 l1 l2 l3 : Value} {P R : Prop} [Decidable P] [Decidable R] : WP d 222 1055 [l0, l1, l2, l3] (vI (bI R) :: vI (bI P) :: st) X Q = if (P ↔ R) then WP d 222 1421 [l0, l1, l2, l3] (st) X Q else WP d 222 1058 [l0, l1, l2, l3] (st) X Q := w_icmpeqb (by rfl) (by decide)
set_option maxRecDepth 100000 in
theorem s222_1058 {l0 l1 l2 l3 : Value}  : WP d 222 1058 [l0, l1, l2, l3] (st) X Q = WP d 222 1059 [l0, l1, l2, l3] (vI (0) :: st) X Q := w_iconst (by rfl)
set_option maxRecDepth 100000 in
theorem s222_1059 {l0 l1 l2 l3 : Value} {z1 : Int} (hz : z1 = 0 ∨ z1 = 1) : WP d 222 1059 [l0, l1, l2, l3] (vI z1 :: []) X Q = Q (some (vI z1)) X := w_iretz (by rfl) (by rfl) (nb_bool hz)
set_option maxRecDepth 100000 in
theorem s222_1059b {l0 l1 l2 l3 : Value} {P : Prop} [Decidable P] : WP d 222 1059 [l0, l1, l2, l3] (vI (bI P) :: []) X Q = Q (some (vI (bI P))) X := w_iretz (by rfl) (by rfl) (nb_bool (bI_01 P))
set_option maxRecDepth 100000 in
theorem s222_1060 {l0 l2 l3 : Value}  : WP d 222 1060 [l0, .ref 0, l2, l3] (st) X Q = WP d 222 1061 [l0, .ref 0, l2, l3] (.ref 0 :: st) X Q := w_aload_n (by rfl) rfl (by decide)
set_option maxRecDepth 100000 in
theorem c222_1061 {l0 l1 l2 l3 : Value} {r : Int} {X' : q_H} (hN : 0 < N) (hS : Sp d 84 [.ref 0] (N, L, M) (some (vI r)) X') : WP d 222 1061 [l0, l1, l2, l3] (.ref 0 :: []) (N, L, M) Q = WP d 222 1064 [l0, l1, l2, l3] (vI r :: []) X' Q := w_callv (vs := []) (by rfl) (by rfl) rfl (Nat.le_of_ble_eq_true rfl) (kd := 8) (by rfl) (by decide) (Or.inl hN) (by rfl) hS
set_option maxRecDepth 100000 in
theorem s222_1064 {l0 l1 l3 : Value}  : WP d 222 1064 [l0, l1, .ref 82, l3] (st) X Q = WP d 222 1065 [l0, l1, .ref 82, l3] (.ref 82 :: st) X Q := w_aload_n (by rfl) rfl (by decide)
set_option maxRecDepth 100000 in
theorem c222_1065 {l0 l1 l2 l3 : Value} {x0 : Value} {r : Int} {X' : q_H} (hN : 82 < N) (hS : Sp d 187 [.ref 82] (N, L, M) (some (vI r)) X') : WP d 222 1065 [l0, l1, l2, l3] (.ref 82 :: x0 :: []) (N, L, M) Q = WP d 222 1068 [l0, l1, l2, l3] (vI r :: x0 :: []) X' Q := w_callv (vs := []) (by rfl) (by rfl) rfl (Nat.le_of_ble_eq_true rfl) (kd := 9) (by rfl) (by decide) (Or.inl hN) (by rfl) hS
set_option maxRecDepth 100000 in
theorem s222_1068 {l0 l1 l2 l3 : Value} {z1 : Int} {z2 : Int} (h1 : -2147483648 ≤ z1 ∧ z1 ≤ 2147483647) (h2 : -2147483648 ≤ z2 ∧ z2 ≤ 2147483647) : WP d 222 1068 [l0, l1, l2, l3] (vI z2 :: vI z1 :: st) X Q = if z1 = z2 then WP d 222 1421 [l0, l1, l2, l3] (st) X Q else WP d 222 1071 [l0, l1, l2, l3] (st) X Q := w_icmpeq (by rfl) (by decide) h1 h2
set_option maxRecDepth 100000 in
theorem s222_1068b {l0 l1 l2 l3 : Value} {P R : Prop} [Decidable P] [Decidable R] : WP d 222 1068 [l0, l1, l2, l3] (vI (bI R) :: vI (bI P) :: st) X Q = if (P ↔ R) then WP d 222 1421 [l0, l1, l2, l3] (st) X Q else WP d 222 1071 [l0, l1, l2, l3] (st) X Q := w_icmpeqb (by rfl) (by decide)
set_option maxRecDepth 100000 in
theorem s222_1071 {l0 l1 l2 l3 : Value}  : WP d 222 1071 [l0, l1, l2, l3] (st) X Q = WP d 222 1072 [l0, l1, l2, l3] (vI (0) :: st) X Q := w_iconst (by rfl)
set_option maxRecDepth 100000 in
theorem s222_1072 {l0 l1 l2 l3 : Value} {z1 : Int} (hz : z1 = 0 ∨ z1 = 1) : WP d 222 1072 [l0, l1, l2, l3] (vI z1 :: []) X Q = Q (some (vI z1)) X := w_iretz (by rfl) (by rfl) (nb_bool hz)
set_option maxRecDepth 100000 in
theorem s222_1072b {l0 l1 l2 l3 : Value} {P : Prop} [Decidable P] : WP d 222 1072 [l0, l1, l2, l3] (vI (bI P) :: []) X Q = Q (some (vI (bI P))) X := w_iretz (by rfl) (by rfl) (nb_bool (bI_01 P))
set_option maxRecDepth 100000 in
theorem s222_1073 {l0 l2 l3 : Value}  : WP d 222 1073 [l0, .ref 0, l2, l3] (st) X Q = WP d 222 1074 [l0, .ref 0, l2, l3] (.ref 0 :: st) X Q := w_aload_n (by rfl) rfl (by decide)
set_option maxRecDepth 100000 in
theorem c222_1074 {l0 l1 l2 l3 : Value} {r : Int} {X' : q_H} (hN : 0 < N) (hS : Sp d 85 [.ref 0] (N, L, M) (some (vI r)) X') : WP d 222 1074 [l0, l1, l2, l3] (.ref 0 :: []) (N, L, M) Q = WP d 222 1077 [l0, l1, l2, l3] (vI r :: []) X' Q := w_callv (vs := []) (by rfl) (by rfl) rfl (Nat.le_of_ble_eq_true rfl) (kd := 8) (by rfl) (by decide) (Or.inl hN) (by rfl) hS
set_option maxRecDepth 100000 in
theorem s222_1077 {l0 l1 l3 : Value}  : WP d 222 1077 [l0, l1, .ref 82, l3] (st) X Q = WP d 222 1078 [l0, l1, .ref 82, l3] (.ref 82 :: st) X Q := w_aload_n (by rfl) rfl (by decide)
set_option maxRecDepth 100000 in
theorem c222_1078 {l0 l1 l2 l3 : Value} {x0 : Value} {r : Int} {X' : q_H} (hN : 82 < N) (hS : Sp d 188 [.ref 82] (N, L, M) (some (vI r)) X') : WP d 222 1078 [l0, l1, l2, l3] (.ref 82 :: x0 :: []) (N, L, M) Q = WP d 222 1081 [l0, l1, l2, l3] (vI r :: x0 :: []) X' Q := w_callv (vs := []) (by rfl) (by rfl) rfl (Nat.le_of_ble_eq_true rfl) (kd := 9) (by rfl) (by decide) (Or.inl hN) (by rfl) hS
set_option maxRecDepth 100000 in
theorem s222_1081 {l0 l1 l2 l3 : Value} {z1 : Int} {z2 : Int} (h1 : -2147483648 ≤ z1 ∧ z1 ≤ 2147483647) (h2 : -2147483648 ≤ z2 ∧ z2 ≤ 2147483647) : WP d 222 1081 [l0, l1, l2, l3] (vI z2 :: vI z1 :: st) X Q = if z1 = z2 then WP d 222 1421 [l0, l1, l2, l3] (st) X Q else WP d 222 1084 [l0, l1, l2, l3] (st) X Q := w_icmpeq (by rfl) (by decide) h1 h2
set_option maxRecDepth 100000 in
theorem s222_1081b {l0 l1 l2 l3 : Value} {P R : Prop} [Decidable P] [Decidable R] : WP d 222 1081 [l0, l1, l2, l3] (vI (bI R) :: vI (bI P) :: st) X Q = if (P ↔ R) then WP d 222 1421 [l0, l1, l2, l3] (st) X Q else WP d 222 1084 [l0, l1, l2, l3] (st) X Q := w_icmpeqb (by rfl) (by decide)
set_option maxRecDepth 100000 in
theorem s222_1084 {l0 l1 l2 l3 : Value}  : WP d 222 1084 [l0, l1, l2, l3] (st) X Q = WP d 222 1085 [l0, l1, l2, l3] (vI (0) :: st) X Q := w_iconst (by rfl)
set_option maxRecDepth 100000 in
theorem s222_1085 {l0 l1 l2 l3 : Value} {z1 : Int} (hz : z1 = 0 ∨ z1 = 1) : WP d 222 1085 [l0, l1, l2, l3] (vI z1 :: []) X Q = Q (some (vI z1)) X := w_iretz (by rfl) (by rfl) (nb_bool hz)
set_option maxRecDepth 100000 in
theorem s222_1085b {l0 l1 l2 l3 : Value} {P : Prop} [Decidable P] : WP d 222 1085 [l0, l1, l2, l3] (vI (bI P) :: []) X Q = Q (some (vI (bI P))) X := w_iretz (by rfl) (by rfl) (nb_bool (bI_01 P))
set_option maxRecDepth 100000 in
theorem s222_1086 {l0 l2 l3 : Value}  : WP d 222 1086 [l0, .ref 0, l2, l3] (st) X Q = WP d 222 1087 [l0, .ref 0, l2, l3] (.ref 0 :: st) X Q := w_aload_n (by rfl) rfl (by decide)
set_option maxRecDepth 100000 in
theorem s222_1087 {l1 l2 l3 : Value}  : WP d 222 1087 [.ref 1000, l1, l2, l3] (st) X Q = WP d 222 1088 [.ref 1000, l1, l2, l3] (.ref 1000 :: st) X Q := w_aload_n (by rfl) rfl (by decide)
set_option maxRecDepth 100000 in
theorem s222_1088 {l0 l1 l2 : Value} {z1 : Int} : WP d 222 1088 [l0, l1, l2, vI z1] (st) X Q = WP d 222 1089 [l0, l1, l2, vI z1] (vI z1 :: st) X Q := w_iload_n (by rfl) rfl
set_option maxRecDepth 100000 in
theorem s222_1089 {l0 l1 l2 l3 : Value}  : WP d 222 1089 [l0, l1, l2, l3] (st) X Q = WP d 222 1090 [l0, l1, l2, l3] (vI (1) :: st) X Q := w_iconst (by rfl)
set_option maxRecDepth 100000 in
theorem s222_1090 {l0 l1 l2 l3 : Value} {z1 : Int} {z2 : Int} : WP d 222 1090 [l0, l1, l2, l3] (vI z2 :: vI z1 :: st) X Q = WP d 222 1091 [l0, l1, l2, l3] (vI (z1 + z2) :: st) X Q := w_iadd (by rfl)
set_option maxRecDepth 100000 in
theorem s222_1091 {l0 l1 l2 l3 : Value} {j1 : Int} (hj : 0 ≤ j1 ∧ j1 < (L : Int)) (hm : L ≤ 2147483647) : WP d 222 1091 [l0, l1, l2, l3] (vI j1 :: .ref 1000 :: st) (N, L, M) Q = WP d 222 1092 [l0, l1, l2, l3] (M 1000 j1.toNat :: st) (N, L, M) Q := w_ialdS (by rfl) hj hm
set_option maxRecDepth 100000 in
theorem s222_1092 {l1 l2 l3 : Value}  : WP d 222 1092 [.ref 1000, l1, l2, l3] (st) X Q = WP d 222 1093 [.ref 1000, l1, l2, l3] (.ref 1000 :: st) X Q := w_aload_n (by rfl) rfl (by decide)
set_option maxRecDepth 100000 in
theorem s222_1093 {l0 l1 l2 : Value} {z1 : Int} : WP d 222 1093 [l0, l1, l2, vI z1] (st) X Q = WP d 222 1094 [l0, l1, l2, vI z1] (vI z1 :: st) X Q := w_iload_n (by rfl) rfl
set_option maxRecDepth 100000 in
theorem s222_1094 {l0 l1 l2 l3 : Value}  : WP d 222 1094 [l0, l1, l2, l3] (st) X Q = WP d 222 1095 [l0, l1, l2, l3] (vI (2) :: st) X Q := w_iconst (by rfl)
set_option maxRecDepth 100000 in
theorem s222_1095 {l0 l1 l2 l3 : Value} {z1 : Int} {z2 : Int} : WP d 222 1095 [l0, l1, l2, l3] (vI z2 :: vI z1 :: st) X Q = WP d 222 1096 [l0, l1, l2, l3] (vI (z1 + z2) :: st) X Q := w_iadd (by rfl)
set_option maxRecDepth 100000 in
theorem s222_1096 {l0 l1 l2 l3 : Value} {j1 : Int} (hj : 0 ≤ j1 ∧ j1 < (L : Int)) (hm : L ≤ 2147483647) : WP d 222 1096 [l0, l1, l2, l3] (vI j1 :: .ref 1000 :: st) (N, L, M) Q = WP d 222 1097 [l0, l1, l2, l3] (M 1000 j1.toNat :: st) (N, L, M) Q := w_ialdS (by rfl) hj hm
set_option maxRecDepth 100000 in
theorem s222_1097 {l1 l2 l3 : Value}  : WP d 222 1097 [.ref 1000, l1, l2, l3] (st) X Q = WP d 222 1098 [.ref 1000, l1, l2, l3] (.ref 1000 :: st) X Q := w_aload_n (by rfl) rfl (by decide)
set_option maxRecDepth 100000 in
theorem s222_1098 {l0 l1 l2 : Value} {z1 : Int} : WP d 222 1098 [l0, l1, l2, vI z1] (st) X Q = WP d 222 1099 [l0, l1, l2, vI z1] (vI z1 :: st) X Q := w_iload_n (by rfl) rfl
set_option maxRecDepth 100000 in
theorem s222_1099 {l0 l1 l2 l3 : Value}  : WP d 222 1099 [l0, l1, l2, l3] (st) X Q = WP d 222 1100 [l0, l1, l2, l3] (vI (3) :: st) X Q := w_iconst (by rfl)
set_option maxRecDepth 100000 in
theorem s222_1100 {l0 l1 l2 l3 : Value} {z1 : Int} {z2 : Int} : WP d 222 1100 [l0, l1, l2, l3] (vI z2 :: vI z1 :: st) X Q = WP d 222 1101 [l0, l1, l2, l3] (vI (z1 + z2) :: st) X Q := w_iadd (by rfl)
set_option maxRecDepth 100000 in
theorem s222_1101 {l0 l1 l2 l3 : Value} {j1 : Int} (hj : 0 ≤ j1 ∧ j1 < (L : Int)) (hm : L ≤ 2147483647) : WP d 222 1101 [l0, l1, l2, l3] (vI j1 :: .ref 1000 :: st) (N, L, M) Q = WP d 222 1102 [l0, l1, l2, l3] (M 1000 j1.toNat :: st) (N, L, M) Q := w_ialdS (by rfl) hj hm
set_option maxRecDepth 100000 in
theorem c222_1102 {l0 l1 l2 l3 : Value} {z1 : Int} {z2 : Int} {z3 : Int} {r : Int} {X' : q_H} (hN : 0 < N) (hS : Sp d 86 [.ref 0, vI z1, vI z2, vI z3] (N, L, M) (some (vI r)) X') : WP d 222 1102 [l0, l1, l2, l3] (vI z3 :: vI z2 :: vI z1 :: .ref 0 :: []) (N, L, M) Q = WP d 222 1105 [l0, l1, l2, l3] (vI r :: []) X' Q := w_callv (vs := [vI z1, vI z2, vI z3]) (by rfl) (by rfl) rfl (Nat.le_of_ble_eq_true rfl) (kd := 8) (by rfl) (by decide) (Or.inl hN) (by rfl) hS
set_option maxRecDepth 100000 in
theorem s222_1105 {l0 l1 l3 : Value}  : WP d 222 1105 [l0, l1, .ref 82, l3] (st) X Q = WP d 222 1106 [l0, l1, .ref 82, l3] (.ref 82 :: st) X Q := w_aload_n (by rfl) rfl (by decide)
set_option maxRecDepth 100000 in
theorem s222_1106 {l1 l2 l3 : Value}  : WP d 222 1106 [.ref 1000, l1, l2, l3] (st) X Q = WP d 222 1107 [.ref 1000, l1, l2, l3] (.ref 1000 :: st) X Q := w_aload_n (by rfl) rfl (by decide)
set_option maxRecDepth 100000 in
theorem s222_1107 {l0 l1 l2 : Value} {z1 : Int} : WP d 222 1107 [l0, l1, l2, vI z1] (st) X Q = WP d 222 1108 [l0, l1, l2, vI z1] (vI z1 :: st) X Q := w_iload_n (by rfl) rfl
set_option maxRecDepth 100000 in
theorem s222_1108 {l0 l1 l2 l3 : Value}  : WP d 222 1108 [l0, l1, l2, l3] (st) X Q = WP d 222 1109 [l0, l1, l2, l3] (vI (1) :: st) X Q := w_iconst (by rfl)
set_option maxRecDepth 100000 in
theorem s222_1109 {l0 l1 l2 l3 : Value} {z1 : Int} {z2 : Int} : WP d 222 1109 [l0, l1, l2, l3] (vI z2 :: vI z1 :: st) X Q = WP d 222 1110 [l0, l1, l2, l3] (vI (z1 + z2) :: st) X Q := w_iadd (by rfl)
set_option maxRecDepth 100000 in
theorem s222_1110 {l0 l1 l2 l3 : Value} {j1 : Int} (hj : 0 ≤ j1 ∧ j1 < (L : Int)) (hm : L ≤ 2147483647) : WP d 222 1110 [l0, l1, l2, l3] (vI j1 :: .ref 1000 :: st) (N, L, M) Q = WP d 222 1111 [l0, l1, l2, l3] (M 1000 j1.toNat :: st) (N, L, M) Q := w_ialdS (by rfl) hj hm
set_option maxRecDepth 100000 in
theorem s222_1111 {l1 l2 l3 : Value}  : WP d 222 1111 [.ref 1000, l1, l2, l3] (st) X Q = WP d 222 1112 [.ref 1000, l1, l2, l3] (.ref 1000 :: st) X Q := w_aload_n (by rfl) rfl (by decide)
set_option maxRecDepth 100000 in
theorem s222_1112 {l0 l1 l2 : Value} {z1 : Int} : WP d 222 1112 [l0, l1, l2, vI z1] (st) X Q = WP d 222 1113 [l0, l1, l2, vI z1] (vI z1 :: st) X Q := w_iload_n (by rfl) rfl
set_option maxRecDepth 100000 in
theorem s222_1113 {l0 l1 l2 l3 : Value}  : WP d 222 1113 [l0, l1, l2, l3] (st) X Q = WP d 222 1114 [l0, l1, l2, l3] (vI (2) :: st) X Q := w_iconst (by rfl)
set_option maxRecDepth 100000 in
theorem s222_1114 {l0 l1 l2 l3 : Value} {z1 : Int} {z2 : Int} : WP d 222 1114 [l0, l1, l2, l3] (vI z2 :: vI z1 :: st) X Q = WP d 222 1115 [l0, l1, l2, l3] (vI (z1 + z2) :: st) X Q := w_iadd (by rfl)
set_option maxRecDepth 100000 in
theorem s222_1115 {l0 l1 l2 l3 : Value} {j1 : Int} (hj : 0 ≤ j1 ∧ j1 < (L : Int)) (hm : L ≤ 2147483647) : WP d 222 1115 [l0, l1, l2, l3] (vI j1 :: .ref 1000 :: st) (N, L, M) Q = WP d 222 1116 [l0, l1, l2, l3] (M 1000 j1.toNat :: st) (N, L, M) Q := w_ialdS (by rfl) hj hm
set_option maxRecDepth 100000 in
theorem s222_1116 {l1 l2 l3 : Value}  : WP d 222 1116 [.ref 1000, l1, l2, l3] (st) X Q = WP d 222 1117 [.ref 1000, l1, l2, l3] (.ref 1000 :: st) X Q := w_aload_n (by rfl) rfl (by decide)
set_option maxRecDepth 100000 in
theorem s222_1117 {l0 l1 l2 : Value} {z1 : Int} : WP d 222 1117 [l0, l1, l2, vI z1] (st) X Q = WP d 222 1118 [l0, l1, l2, vI z1] (vI z1 :: st) X Q := w_iload_n (by rfl) rfl
set_option maxRecDepth 100000 in
theorem s222_1118 {l0 l1 l2 l3 : Value}  : WP d 222 1118 [l0, l1, l2, l3] (st) X Q = WP d 222 1119 [l0, l1, l2, l3] (vI (3) :: st) X Q := w_iconst (by rfl)
set_option maxRecDepth 100000 in
theorem s222_1119 {l0 l1 l2 l3 : Value} {z1 : Int} {z2 : Int} : WP d 222 1119 [l0, l1, l2, l3] (vI z2 :: vI z1 :: st) X Q = WP d 222 1120 [l0, l1, l2, l3] (vI (z1 + z2) :: st) X Q := w_iadd (by rfl)
set_option maxRecDepth 100000 in
theorem s222_1120 {l0 l1 l2 l3 : Value} {j1 : Int} (hj : 0 ≤ j1 ∧ j1 < (L : Int)) (hm : L ≤ 2147483647) : WP d 222 1120 [l0, l1, l2, l3] (vI j1 :: .ref 1000 :: st) (N, L, M) Q = WP d 222 1121 [l0, l1, l2, l3] (M 1000 j1.toNat :: st) (N, L, M) Q := w_ialdS (by rfl) hj hm
set_option maxRecDepth 100000 in
theorem c222_1121 {l0 l1 l2 l3 : Value} {x0 : Value} {z1 : Int} {z2 : Int} {z3 : Int} {r : Int} {X' : q_H} (hN : 82 < N) (hS : Sp d 197 [.ref 82, vI z1, vI z2, vI z3] (N, L, M) (some (vI r)) X') : WP d 222 1121 [l0, l1, l2, l3] (vI z3 :: vI z2 :: vI z1 :: .ref 82 :: x0 :: []) (N, L, M) Q = WP d 222 1124 [l0, l1, l2, l3] (vI r :: x0 :: []) X' Q := w_callv (vs := [vI z1, vI z2, vI z3]) (by rfl) (by rfl) rfl (Nat.le_of_ble_eq_true rfl) (kd := 9) (by rfl) (by decide) (Or.inl hN) (by rfl) hS
set_option maxRecDepth 100000 in
theorem s222_1124 {l0 l1 l2 l3 : Value} {z1 : Int} {z2 : Int} (h1 : -2147483648 ≤ z1 ∧ z1 ≤ 2147483647) (h2 : -2147483648 ≤ z2 ∧ z2 ≤ 2147483647) : WP d 222 1124 [l0, l1, l2, l3] (vI z2 :: vI z1 :: st) X Q = if z1 = z2 then WP d 222 1421 [l0, l1, l2, l3] (st) X Q else WP d 222 1127 [l0, l1, l2, l3] (st) X Q := w_icmpeq (by rfl) (by decide) h1 h2
set_option maxRecDepth 100000 in
theorem s222_1124b {l0 l1 l2 l3 : Value} {P R : Prop} [Decidable P] [Decidable R] : WP d 222 1124 [l0, l1, l2, l3] (vI (bI R) :: vI (bI P) :: st) X Q = if (P ↔ R) then WP d 222 1421 [l0, l1, l2, l3] (st) X Q else WP d 222 1127 [l0, l1, l2, l3] (st) X Q := w_icmpeqb (by rfl) (by decide)
set_option maxRecDepth 100000 in
theorem s222_1127 {l0 l1 l2 l3 : Value}  : WP d 222 1127 [l0, l1, l2, l3] (st) X Q = WP d 222 1128 [l0, l1, l2, l3] (vI (0) :: st) X Q := w_iconst (by rfl)
set_option maxRecDepth 100000 in
theorem s222_1128 {l0 l1 l2 l3 : Value} {z1 : Int} (hz : z1 = 0 ∨ z1 = 1) : WP d 222 1128 [l0, l1, l2, l3] (vI z1 :: []) X Q = Q (some (vI z1)) X := w_iretz (by rfl) (by rfl) (nb_bool hz)
set_option maxRecDepth 100000 in
theorem s222_1128b {l0 l1 l2 l3 : Value} {P : Prop} [Decidable P] : WP d 222 1128 [l0, l1, l2, l3] (vI (bI P) :: []) X Q = Q (some (vI (bI P))) X := w_iretz (by rfl) (by rfl) (nb_bool (bI_01 P))
set_option maxRecDepth 100000 in
theorem s222_1129 {l0 l2 l3 : Value}  : WP d 222 1129 [l0, .ref 0, l2, l3] (st) X Q = WP d 222 1130 [l0, .ref 0, l2, l3] (.ref 0 :: st) X Q := w_aload_n (by rfl) rfl (by decide)
set_option maxRecDepth 100000 in
theorem s222_1130 {l1 l2 l3 : Value}  : WP d 222 1130 [.ref 1000, l1, l2, l3] (st) X Q = WP d 222 1131 [.ref 1000, l1, l2, l3] (.ref 1000 :: st) X Q := w_aload_n (by rfl) rfl (by decide)
set_option maxRecDepth 100000 in
theorem s222_1131 {l0 l1 l2 : Value} {z1 : Int} : WP d 222 1131 [l0, l1, l2, vI z1] (st) X Q = WP d 222 1132 [l0, l1, l2, vI z1] (vI z1 :: st) X Q := w_iload_n (by rfl) rfl
set_option maxRecDepth 100000 in
theorem s222_1132 {l0 l1 l2 l3 : Value}  : WP d 222 1132 [l0, l1, l2, l3] (st) X Q = WP d 222 1133 [l0, l1, l2, l3] (vI (1) :: st) X Q := w_iconst (by rfl)
set_option maxRecDepth 100000 in
theorem s222_1133 {l0 l1 l2 l3 : Value} {z1 : Int} {z2 : Int} : WP d 222 1133 [l0, l1, l2, l3] (vI z2 :: vI z1 :: st) X Q = WP d 222 1134 [l0, l1, l2, l3] (vI (z1 + z2) :: st) X Q := w_iadd (by rfl)
set_option maxRecDepth 100000 in
theorem s222_1134 {l0 l1 l2 l3 : Value} {j1 : Int} (hj : 0 ≤ j1 ∧ j1 < (L : Int)) (hm : L ≤ 2147483647) : WP d 222 1134 [l0, l1, l2, l3] (vI j1 :: .ref 1000 :: st) (N, L, M) Q = WP d 222 1135 [l0, l1, l2, l3] (M 1000 j1.toNat :: st) (N, L, M) Q := w_ialdS (by rfl) hj hm
set_option maxRecDepth 100000 in
theorem c222_1135 {l0 l1 l2 l3 : Value} {z1 : Int} {r : Int} {X' : q_H} (hN : 0 < N) (hS : Sp d 87 [.ref 0, vI z1] (N, L, M) (some (vI r)) X') : WP d 222 1135 [l0, l1, l2, l3] (vI z1 :: .ref 0 :: []) (N, L, M) Q = WP d 222 1138 [l0, l1, l2, l3] (vI r :: []) X' Q := w_callv (vs := [vI z1]) (by rfl) (by rfl) rfl (Nat.le_of_ble_eq_true rfl) (kd := 8) (by rfl) (by decide) (Or.inl hN) (by rfl) hS
set_option maxRecDepth 100000 in
theorem s222_1138 {l0 l1 l3 : Value}  : WP d 222 1138 [l0, l1, .ref 82, l3] (st) X Q = WP d 222 1139 [l0, l1, .ref 82, l3] (.ref 82 :: st) X Q := w_aload_n (by rfl) rfl (by decide)
set_option maxRecDepth 100000 in
theorem s222_1139 {l1 l2 l3 : Value}  : WP d 222 1139 [.ref 1000, l1, l2, l3] (st) X Q = WP d 222 1140 [.ref 1000, l1, l2, l3] (.ref 1000 :: st) X Q := w_aload_n (by rfl) rfl (by decide)
set_option maxRecDepth 100000 in
theorem s222_1140 {l0 l1 l2 : Value} {z1 : Int} : WP d 222 1140 [l0, l1, l2, vI z1] (st) X Q = WP d 222 1141 [l0, l1, l2, vI z1] (vI z1 :: st) X Q := w_iload_n (by rfl) rfl
set_option maxRecDepth 100000 in
theorem s222_1141 {l0 l1 l2 l3 : Value}  : WP d 222 1141 [l0, l1, l2, l3] (st) X Q = WP d 222 1142 [l0, l1, l2, l3] (vI (1) :: st) X Q := w_iconst (by rfl)
set_option maxRecDepth 100000 in
theorem s222_1142 {l0 l1 l2 l3 : Value} {z1 : Int} {z2 : Int} : WP d 222 1142 [l0, l1, l2, l3] (vI z2 :: vI z1 :: st) X Q = WP d 222 1143 [l0, l1, l2, l3] (vI (z1 + z2) :: st) X Q := w_iadd (by rfl)
set_option maxRecDepth 100000 in
theorem s222_1143 {l0 l1 l2 l3 : Value} {j1 : Int} (hj : 0 ≤ j1 ∧ j1 < (L : Int)) (hm : L ≤ 2147483647) : WP d 222 1143 [l0, l1, l2, l3] (vI j1 :: .ref 1000 :: st) (N, L, M) Q = WP d 222 1144 [l0, l1, l2, l3] (M 1000 j1.toNat :: st) (N, L, M) Q := w_ialdS (by rfl) hj hm
set_option maxRecDepth 100000 in
theorem c222_1144 {l0 l1 l2 l3 : Value} {x0 : Value} {z1 : Int} {r : Int} {X' : q_H} (hN : 82 < N) (hS : Sp d 198 [.ref 82, vI z1] (N, L, M) (some (vI r)) X') : WP d 222 1144 [l0, l1, l2, l3] (vI z1 :: .ref 82 :: x0 :: []) (N, L, M) Q = WP d 222 1147 [l0, l1, l2, l3] (vI r :: x0 :: []) X' Q := w_callv (vs := [vI z1]) (by rfl) (by rfl) rfl (Nat.le_of_ble_eq_true rfl) (kd := 9) (by rfl) (by decide) (Or.inl hN) (by rfl) hS
set_option maxRecDepth 100000 in
theorem s222_1147 {l0 l1 l2 l3 : Value} {z1 : Int} {z2 : Int} (h1 : -2147483648 ≤ z1 ∧ z1 ≤ 2147483647) (h2 : -2147483648 ≤ z2 ∧ z2 ≤ 2147483647) : WP d 222 1147 [l0, l1, l2, l3] (vI z2 :: vI z1 :: st) X Q = if z1 = z2 then WP d 222 1421 [l0, l1, l2, l3] (st) X Q else WP d 222 1150 [l0, l1, l2, l3] (st) X Q := w_icmpeq (by rfl) (by decide) h1 h2
set_option maxRecDepth 100000 in
theorem s222_1147b {l0 l1 l2 l3 : Value} {P R : Prop} [Decidable P] [Decidable R] : WP d 222 1147 [l0, l1, l2, l3] (vI (bI R) :: vI (bI P) :: st) X Q = if (P ↔ R) then WP d 222 1421 [l0, l1, l2, l3] (st) X Q else WP d 222 1150 [l0, l1, l2, l3] (st) X Q := w_icmpeqb (by rfl) (by decide)
set_option maxRecDepth 100000 in
theorem s222_1150 {l0 l1 l2 l3 : Value}  : WP d 222 1150 [l0, l1, l2, l3] (st) X Q = WP d 222 1151 [l0, l1, l2, l3] (vI (0) :: st) X Q := w_iconst (by rfl)
set_option maxRecDepth 100000 in
theorem s222_1151 {l0 l1 l2 l3 : Value} {z1 : Int} (hz : z1 = 0 ∨ z1 = 1) : WP d 222 1151 [l0, l1, l2, l3] (vI z1 :: []) X Q = Q (some (vI z1)) X := w_iretz (by rfl) (by rfl) (nb_bool hz)
set_option maxRecDepth 100000 in
theorem s222_1151b {l0 l1 l2 l3 : Value} {P : Prop} [Decidable P] : WP d 222 1151 [l0, l1, l2, l3] (vI (bI P) :: []) X Q = Q (some (vI (bI P))) X := w_iretz (by rfl) (by rfl) (nb_bool (bI_01 P))
set_option maxRecDepth 100000 in
theorem s222_1152 {l0 l2 l3 : Value}  : WP d 222 1152 [l0, .ref 0, l2, l3] (st) X Q = WP d 222 1153 [l0, .ref 0, l2, l3] (.ref 0 :: st) X Q := w_aload_n (by rfl) rfl (by decide)
set_option maxRecDepth 100000 in
theorem s222_1153 {l1 l2 l3 : Value}  : WP d 222 1153 [.ref 1000, l1, l2, l3] (st) X Q = WP d 222 1154 [.ref 1000, l1, l2, l3] (.ref 1000 :: st) X Q := w_aload_n (by rfl) rfl (by decide)
set_option maxRecDepth 100000 in
theorem s222_1154 {l0 l1 l2 : Value} {z1 : Int} : WP d 222 1154 [l0, l1, l2, vI z1] (st) X Q = WP d 222 1155 [l0, l1, l2, vI z1] (vI z1 :: st) X Q := w_iload_n (by rfl) rfl
set_option maxRecDepth 100000 in
theorem s222_1155 {l0 l1 l2 l3 : Value}  : WP d 222 1155 [l0, l1, l2, l3] (st) X Q = WP d 222 1156 [l0, l1, l2, l3] (vI (1) :: st) X Q := w_iconst (by rfl)
set_option maxRecDepth 100000 in
theorem s222_1156 {l0 l1 l2 l3 : Value} {z1 : Int} {z2 : Int} : WP d 222 1156 [l0, l1, l2, l3] (vI z2 :: vI z1 :: st) X Q = WP d 222 1157 [l0, l1, l2, l3] (vI (z1 + z2) :: st) X Q := w_iadd (by rfl)
set_option maxRecDepth 100000 in
theorem s222_1157 {l0 l1 l2 l3 : Value} {j1 : Int} (hj : 0 ≤ j1 ∧ j1 < (L : Int)) (hm : L ≤ 2147483647) : WP d 222 1157 [l0, l1, l2, l3] (vI j1 :: .ref 1000 :: st) (N, L, M) Q = WP d 222 1158 [l0, l1, l2, l3] (M 1000 j1.toNat :: st) (N, L, M) Q := w_ialdS (by rfl) hj hm
set_option maxRecDepth 100000 in
theorem s222_1158 {l1 l2 l3 : Value}  : WP d 222 1158 [.ref 1000, l1, l2, l3] (st) X Q = WP d 222 1159 [.ref 1000, l1, l2, l3] (.ref 1000 :: st) X Q := w_aload_n (by rfl) rfl (by decide)
set_option maxRecDepth 100000 in
theorem s222_1159 {l0 l1 l2 : Value} {z1 : Int} : WP d 222 1159 [l0, l1, l2, vI z1] (st) X Q = WP d 222 1160 [l0, l1, l2, vI z1] (vI z1 :: st) X Q := w_iload_n (by rfl) rfl
set_option maxRecDepth 100000 in
theorem s222_1160 {l0 l1 l2 l3 : Value}  : WP d 222 1160 [l0, l1, l2, l3] (st) X Q = WP d 222 1161 [l0, l1, l2, l3] (vI (2) :: st) X Q := w_iconst (by rfl)
set_option maxRecDepth 100000 in
theorem s222_1161 {l0 l1 l2 l3 : Value} {z1 : Int} {z2 : Int} : WP d 222 1161 [l0, l1, l2, l3] (vI z2 :: vI z1 :: st) X Q = WP d 222 1162 [l0, l1, l2, l3] (vI (z1 + z2) :: st) X Q := w_iadd (by rfl)
set_option maxRecDepth 100000 in
theorem s222_1162 {l0 l1 l2 l3 : Value} {j1 : Int} (hj : 0 ≤ j1 ∧ j1 < (L : Int)) (hm : L ≤ 2147483647) : WP d 222 1162 [l0, l1, l2, l3] (vI j1 :: .ref 1000 :: st) (N, L, M) Q = WP d 222 1163 [l0, l1, l2, l3] (M 1000 j1.toNat :: st) (N, L, M) Q := w_ialdS (by rfl) hj hm
set_option maxRecDepth 100000 in
theorem c222_1163 {l0 l1 l2 l3 : Value} {z1 : Int} {z2 : Int} {r : Int} {X' : q_H} (hN : 0 < N) (hS : Sp d 88 [.ref 0, vI z1, vI z2] (N, L, M) (some (vI r)) X') : WP d 222 1163 [l0, l1, l2, l3] (vI z2 :: vI z1 :: .ref 0 :: []) (N, L, M) Q = WP d 222 1166 [l0, l1, l2, l3] (vI r :: []) X' Q := w_callv (vs := [vI z1, vI z2]) (by rfl) (by rfl) rfl (Nat.le_of_ble_eq_true rfl) (kd := 8) (by rfl) (by decide) (Or.inl hN) (by rfl) hS
set_option maxRecDepth 100000 in
theorem s222_1166 {l0 l1 l3 : Value}  : WP d 222 1166 [l0, l1, .ref 82, l3] (st) X Q = WP d 222 1167 [l0, l1, .ref 82, l3] (.ref 82 :: st) X Q := w_aload_n (by rfl) rfl (by decide)
set_option maxRecDepth 100000 in
theorem s222_1167 {l1 l2 l3 : Value}  : WP d 222 1167 [.ref 1000, l1, l2, l3] (st) X Q = WP d 222 1168 [.ref 1000, l1, l2, l3] (.ref 1000 :: st) X Q := w_aload_n (by rfl) rfl (by decide)
set_option maxRecDepth 100000 in
theorem s222_1168 {l0 l1 l2 : Value} {z1 : Int} : WP d 222 1168 [l0, l1, l2, vI z1] (st) X Q = WP d 222 1169 [l0, l1, l2, vI z1] (vI z1 :: st) X Q := w_iload_n (by rfl) rfl
set_option maxRecDepth 100000 in
theorem s222_1169 {l0 l1 l2 l3 : Value}  : WP d 222 1169 [l0, l1, l2, l3] (st) X Q = WP d 222 1170 [l0, l1, l2, l3] (vI (1) :: st) X Q := w_iconst (by rfl)
set_option maxRecDepth 100000 in
theorem s222_1170 {l0 l1 l2 l3 : Value} {z1 : Int} {z2 : Int} : WP d 222 1170 [l0, l1, l2, l3] (vI z2 :: vI z1 :: st) X Q = WP d 222 1171 [l0, l1, l2, l3] (vI (z1 + z2) :: st) X Q := w_iadd (by rfl)
set_option maxRecDepth 100000 in
theorem s222_1171 {l0 l1 l2 l3 : Value} {j1 : Int} (hj : 0 ≤ j1 ∧ j1 < (L : Int)) (hm : L ≤ 2147483647) : WP d 222 1171 [l0, l1, l2, l3] (vI j1 :: .ref 1000 :: st) (N, L, M) Q = WP d 222 1172 [l0, l1, l2, l3] (M 1000 j1.toNat :: st) (N, L, M) Q := w_ialdS (by rfl) hj hm
set_option maxRecDepth 100000 in
theorem s222_1172 {l1 l2 l3 : Value}  : WP d 222 1172 [.ref 1000, l1, l2, l3] (st) X Q = WP d 222 1173 [.ref 1000, l1, l2, l3] (.ref 1000 :: st) X Q := w_aload_n (by rfl) rfl (by decide)
set_option maxRecDepth 100000 in
theorem s222_1173 {l0 l1 l2 : Value} {z1 : Int} : WP d 222 1173 [l0, l1, l2, vI z1] (st) X Q = WP d 222 1174 [l0, l1, l2, vI z1] (vI z1 :: st) X Q := w_iload_n (by rfl) rfl
set_option maxRecDepth 100000 in
theorem s222_1174 {l0 l1 l2 l3 : Value}  : WP d 222 1174 [l0, l1, l2, l3] (st) X Q = WP d 222 1175 [l0, l1, l2, l3] (vI (2) :: st) X Q := w_iconst (by rfl)
set_option maxRecDepth 100000 in
theorem s222_1175 {l0 l1 l2 l3 : Value} {z1 : Int} {z2 : Int} : WP d 222 1175 [l0, l1, l2, l3] (vI z2 :: vI z1 :: st) X Q = WP d 222 1176 [l0, l1, l2, l3] (vI (z1 + z2) :: st) X Q := w_iadd (by rfl)
set_option maxRecDepth 100000 in
theorem s222_1176 {l0 l1 l2 l3 : Value} {j1 : Int} (hj : 0 ≤ j1 ∧ j1 < (L : Int)) (hm : L ≤ 2147483647) : WP d 222 1176 [l0, l1, l2, l3] (vI j1 :: .ref 1000 :: st) (N, L, M) Q = WP d 222 1177 [l0, l1, l2, l3] (M 1000 j1.toNat :: st) (N, L, M) Q := w_ialdS (by rfl) hj hm
set_option maxRecDepth 100000 in
theorem c222_1177 {l0 l1 l2 l3 : Value} {x0 : Value} {z1 : Int} {z2 : Int} {r : Int} {X' : q_H} (hN : 82 < N) (hS : Sp d 199 [.ref 82, vI z1, vI z2] (N, L, M) (some (vI r)) X') : WP d 222 1177 [l0, l1, l2, l3] (vI z2 :: vI z1 :: .ref 82 :: x0 :: []) (N, L, M) Q = WP d 222 1180 [l0, l1, l2, l3] (vI r :: x0 :: []) X' Q := w_callv (vs := [vI z1, vI z2]) (by rfl) (by rfl) rfl (Nat.le_of_ble_eq_true rfl) (kd := 9) (by rfl) (by decide) (Or.inl hN) (by rfl) hS
set_option maxRecDepth 100000 in
theorem s222_1180 {l0 l1 l2 l3 : Value} {z1 : Int} {z2 : Int} (h1 : -2147483648 ≤ z1 ∧ z1 ≤ 2147483647) (h2 : -2147483648 ≤ z2 ∧ z2 ≤ 2147483647) : WP d 222 1180 [l0, l1, l2, l3] (vI z2 :: vI z1 :: st) X Q = if z1 = z2 then WP d 222 1421 [l0, l1, l2, l3] (st) X Q else WP d 222 1183 [l0, l1, l2, l3] (st) X Q := w_icmpeq (by rfl) (by decide) h1 h2
set_option maxRecDepth 100000 in
theorem s222_1180b {l0 l1 l2 l3 : Value} {P R : Prop} [Decidable P] [Decidable R] : WP d 222 1180 [l0, l1, l2, l3] (vI (bI R) :: vI (bI P) :: st) X Q = if (P ↔ R) then WP d 222 1421 [l0, l1, l2, l3] (st) X Q else WP d 222 1183 [l0, l1, l2, l3] (st) X Q := w_icmpeqb (by rfl) (by decide)
set_option maxRecDepth 100000 in
theorem s222_1183 {l0 l1 l2 l3 : Value}  : WP d 222 1183 [l0, l1, l2, l3] (st) X Q = WP d 222 1184 [l0, l1, l2, l3] (vI (0) :: st) X Q := w_iconst (by rfl)
set_option maxRecDepth 100000 in
theorem s222_1184 {l0 l1 l2 l3 : Value} {z1 : Int} (hz : z1 = 0 ∨ z1 = 1) : WP d 222 1184 [l0, l1, l2, l3] (vI z1 :: []) X Q = Q (some (vI z1)) X := w_iretz (by rfl) (by rfl) (nb_bool hz)
set_option maxRecDepth 100000 in
theorem s222_1184b {l0 l1 l2 l3 : Value} {P : Prop} [Decidable P] : WP d 222 1184 [l0, l1, l2, l3] (vI (bI P) :: []) X Q = Q (some (vI (bI P))) X := w_iretz (by rfl) (by rfl) (nb_bool (bI_01 P))
set_option maxRecDepth 100000 in
theorem s222_1185 {l0 l2 l3 : Value}  : WP d 222 1185 [l0, .ref 0, l2, l3] (st) X Q = WP d 222 1186 [l0, .ref 0, l2, l3] (.ref 0 :: st) X Q := w_aload_n (by rfl) rfl (by decide)
set_option maxRecDepth 100000 in
theorem s222_1186 {l1 l2 l3 : Value}  : WP d 222 1186 [.ref 1000, l1, l2, l3] (st) X Q = WP d 222 1187 [.ref 1000, l1, l2, l3] (.ref 1000 :: st) X Q := w_aload_n (by rfl) rfl (by decide)
set_option maxRecDepth 100000 in
theorem s222_1187 {l0 l1 l2 : Value} {z1 : Int} : WP d 222 1187 [l0, l1, l2, vI z1] (st) X Q = WP d 222 1188 [l0, l1, l2, vI z1] (vI z1 :: st) X Q := w_iload_n (by rfl) rfl
set_option maxRecDepth 100000 in
theorem s222_1188 {l0 l1 l2 l3 : Value}  : WP d 222 1188 [l0, l1, l2, l3] (st) X Q = WP d 222 1189 [l0, l1, l2, l3] (vI (1) :: st) X Q := w_iconst (by rfl)
set_option maxRecDepth 100000 in
theorem s222_1189 {l0 l1 l2 l3 : Value} {z1 : Int} {z2 : Int} : WP d 222 1189 [l0, l1, l2, l3] (vI z2 :: vI z1 :: st) X Q = WP d 222 1190 [l0, l1, l2, l3] (vI (z1 + z2) :: st) X Q := w_iadd (by rfl)
set_option maxRecDepth 100000 in
theorem s222_1190 {l0 l1 l2 l3 : Value} {j1 : Int} (hj : 0 ≤ j1 ∧ j1 < (L : Int)) (hm : L ≤ 2147483647) : WP d 222 1190 [l0, l1, l2, l3] (vI j1 :: .ref 1000 :: st) (N, L, M) Q = WP d 222 1191 [l0, l1, l2, l3] (M 1000 j1.toNat :: st) (N, L, M) Q := w_ialdS (by rfl) hj hm
set_option maxRecDepth 100000 in
theorem c222_1191 {l0 l1 l2 l3 : Value} {z1 : Int} {r : Int} {X' : q_H} (hN : 0 < N) (hS : Sp d 89 [.ref 0, vI z1] (N, L, M) (some (vI r)) X') : WP d 222 1191 [l0, l1, l2, l3] (vI z1 :: .ref 0 :: []) (N, L, M) Q = WP d 222 1194 [l0, l1, l2, l3] (vI r :: []) X' Q := w_callv (vs := [vI z1]) (by rfl) (by rfl) rfl (Nat.le_of_ble_eq_true rfl) (kd := 8) (by rfl) (by decide) (Or.inl hN) (by rfl) hS
set_option maxRecDepth 100000 in
theorem s222_1194 {l0 l1 l3 : Value}  : WP d 222 1194 [l0, l1, .ref 82, l3] (st) X Q = WP d 222 1195 [l0, l1, .ref 82, l3] (.ref 82 :: st) X Q := w_aload_n (by rfl) rfl (by decide)
set_option maxRecDepth 100000 in
theorem s222_1195 {l1 l2 l3 : Value}  : WP d 222 1195 [.ref 1000, l1, l2, l3] (st) X Q = WP d 222 1196 [.ref 1000, l1, l2, l3] (.ref 1000 :: st) X Q := w_aload_n (by rfl) rfl (by decide)
set_option maxRecDepth 100000 in
theorem s222_1196 {l0 l1 l2 : Value} {z1 : Int} : WP d 222 1196 [l0, l1, l2, vI z1] (st) X Q = WP d 222 1197 [l0, l1, l2, vI z1] (vI z1 :: st) X Q := w_iload_n (by rfl) rfl
set_option maxRecDepth 100000 in
theorem s222_1197 {l0 l1 l2 l3 : Value}  : WP d 222 1197 [l0, l1, l2, l3] (st) X Q = WP d 222 1198 [l0, l1, l2, l3] (vI (1) :: st) X Q := w_iconst (by rfl)
set_option maxRecDepth 100000 in
theorem s222_1198 {l0 l1 l2 l3 : Value} {z1 : Int} {z2 : Int} : WP d 222 1198 [l0, l1, l2, l3] (vI z2 :: vI z1 :: st) X Q = WP d 222 1199 [l0, l1, l2, l3] (vI (z1 + z2) :: st) X Q := w_iadd (by rfl)
set_option maxRecDepth 100000 in
theorem s222_1199 {l0 l1 l2 l3 : Value} {j1 : Int} (hj : 0 ≤ j1 ∧ j1 < (L : Int)) (hm : L ≤ 2147483647) : WP d 222 1199 [l0, l1, l2, l3] (vI j1 :: .ref 1000 :: st) (N, L, M) Q = WP d 222 1200 [l0, l1, l2, l3] (M 1000 j1.toNat :: st) (N, L, M) Q := w_ialdS (by rfl) hj hm
set_option maxRecDepth 100000 in
theorem c222_1200 {l0 l1 l2 l3 : Value} {x0 : Value} {z1 : Int} {r : Int} {X' : q_H} (hN : 82 < N) (hS : Sp d 200 [.ref 82, vI z1] (N, L, M) (some (vI r)) X') : WP d 222 1200 [l0, l1, l2, l3] (vI z1 :: .ref 82 :: x0 :: []) (N, L, M) Q = WP d 222 1203 [l0, l1, l2, l3] (vI r :: x0 :: []) X' Q := w_callv (vs := [vI z1]) (by rfl) (by rfl) rfl (Nat.le_of_ble_eq_true rfl) (kd := 9) (by rfl) (by decide) (Or.inl hN) (by rfl) hS
set_option maxRecDepth 100000 in
theorem s222_1203 {l0 l1 l2 l3 : Value} {z1 : Int} {z2 : Int} (h1 : -2147483648 ≤ z1 ∧ z1 ≤ 2147483647) (h2 : -2147483648 ≤ z2 ∧ z2 ≤ 2147483647) : WP d 222 1203 [l0, l1, l2, l3] (vI z2 :: vI z1 :: st) X Q = if z1 = z2 then WP d 222 1421 [l0, l1, l2, l3] (st) X Q else WP d 222 1206 [l0, l1, l2, l3] (st) X Q := w_icmpeq (by rfl) (by decide) h1 h2
set_option maxRecDepth 100000 in
theorem s222_1203b {l0 l1 l2 l3 : Value} {P R : Prop} [Decidable P] [Decidable R] : WP d 222 1203 [l0, l1, l2, l3] (vI (bI R) :: vI (bI P) :: st) X Q = if (P ↔ R) then WP d 222 1421 [l0, l1, l2, l3] (st) X Q else WP d 222 1206 [l0, l1, l2, l3] (st) X Q := w_icmpeqb (by rfl) (by decide)
set_option maxRecDepth 100000 in
theorem s222_1206 {l0 l1 l2 l3 : Value}  : WP d 222 1206 [l0, l1, l2, l3] (st) X Q = WP d 222 1207 [l0, l1, l2, l3] (vI (0) :: st) X Q := w_iconst (by rfl)
set_option maxRecDepth 100000 in
theorem s222_1207 {l0 l1 l2 l3 : Value} {z1 : Int} (hz : z1 = 0 ∨ z1 = 1) : WP d 222 1207 [l0, l1, l2, l3] (vI z1 :: []) X Q = Q (some (vI z1)) X := w_iretz (by rfl) (by rfl) (nb_bool hz)
set_option maxRecDepth 100000 in
theorem s222_1207b {l0 l1 l2 l3 : Value} {P : Prop} [Decidable P] : WP d 222 1207 [l0, l1, l2, l3] (vI (bI P) :: []) X Q = Q (some (vI (bI P))) X := w_iretz (by rfl) (by rfl) (nb_bool (bI_01 P))
set_option maxRecDepth 100000 in
theorem s222_1208 {l0 l2 l3 : Value}  : WP d 222 1208 [l0, .ref 0, l2, l3] (st) X Q = WP d 222 1209 [l0, .ref 0, l2, l3] (.ref 0 :: st) X Q := w_aload_n (by rfl) rfl (by decide)
set_option maxRecDepth 100000 in
theorem s222_1209 {l1 l2 l3 : Value}  : WP d 222 1209 [.ref 1000, l1, l2, l3] (st) X Q = WP d 222 1210 [.ref 1000, l1, l2, l3] (.ref 1000 :: st) X Q := w_aload_n (by rfl) rfl (by decide)
set_option maxRecDepth 100000 in
theorem s222_1210 {l0 l1 l2 : Value} {z1 : Int} : WP d 222 1210 [l0, l1, l2, vI z1] (st) X Q = WP d 222 1211 [l0, l1, l2, vI z1] (vI z1 :: st) X Q := w_iload_n (by rfl) rfl
set_option maxRecDepth 100000 in
theorem s222_1211 {l0 l1 l2 l3 : Value}  : WP d 222 1211 [l0, l1, l2, l3] (st) X Q = WP d 222 1212 [l0, l1, l2, l3] (vI (1) :: st) X Q := w_iconst (by rfl)
set_option maxRecDepth 100000 in
theorem s222_1212 {l0 l1 l2 l3 : Value} {z1 : Int} {z2 : Int} : WP d 222 1212 [l0, l1, l2, l3] (vI z2 :: vI z1 :: st) X Q = WP d 222 1213 [l0, l1, l2, l3] (vI (z1 + z2) :: st) X Q := w_iadd (by rfl)
set_option maxRecDepth 100000 in
theorem s222_1213 {l0 l1 l2 l3 : Value} {j1 : Int} (hj : 0 ≤ j1 ∧ j1 < (L : Int)) (hm : L ≤ 2147483647) : WP d 222 1213 [l0, l1, l2, l3] (vI j1 :: .ref 1000 :: st) (N, L, M) Q = WP d 222 1214 [l0, l1, l2, l3] (M 1000 j1.toNat :: st) (N, L, M) Q := w_ialdS (by rfl) hj hm
set_option maxRecDepth 100000 in
theorem s222_1214 {l1 l2 l3 : Value}  : WP d 222 1214 [.ref 1000, l1, l2, l3] (st) X Q = WP d 222 1215 [.ref 1000, l1, l2, l3] (.ref 1000 :: st) X Q := w_aload_n (by rfl) rfl (by decide)
set_option maxRecDepth 100000 in
theorem s222_1215 {l0 l1 l2 : Value} {z1 : Int} : WP d 222 1215 [l0, l1, l2, vI z1] (st) X Q = WP d 222 1216 [l0, l1, l2, vI z1] (vI z1 :: st) X Q := w_iload_n (by rfl) rfl
set_option maxRecDepth 100000 in
theorem s222_1216 {l0 l1 l2 l3 : Value}  : WP d 222 1216 [l0, l1, l2, l3] (st) X Q = WP d 222 1217 [l0, l1, l2, l3] (vI (2) :: st) X Q := w_iconst (by rfl)
set_option maxRecDepth 100000 in
theorem s222_1217 {l0 l1 l2 l3 : Value} {z1 : Int} {z2 : Int} : WP d 222 1217 [l0, l1, l2, l3] (vI z2 :: vI z1 :: st) X Q = WP d 222 1218 [l0, l1, l2, l3] (vI (z1 + z2) :: st) X Q := w_iadd (by rfl)
set_option maxRecDepth 100000 in
theorem s222_1218 {l0 l1 l2 l3 : Value} {j1 : Int} (hj : 0 ≤ j1 ∧ j1 < (L : Int)) (hm : L ≤ 2147483647) : WP d 222 1218 [l0, l1, l2, l3] (vI j1 :: .ref 1000 :: st) (N, L, M) Q = WP d 222 1219 [l0, l1, l2, l3] (M 1000 j1.toNat :: st) (N, L, M) Q := w_ialdS (by rfl) hj hm
set_option maxRecDepth 100000 in
theorem s222_1219 {l1 l2 l3 : Value}  : WP d 222 1219 [.ref 1000, l1, l2, l3] (st) X Q = WP d 222 1220 [.ref 1000, l1, l2, l3] (.ref 1000 :: st) X Q := w_aload_n (by rfl) rfl (by decide)
set_option maxRecDepth 100000 in
theorem s222_1220 {l0 l1 l2 : Value} {z1 : Int} : WP d 222 1220 [l0, l1, l2, vI z1] (st) X Q = WP d 222 1221 [l0, l1, l2, vI z1] (vI z1 :: st) X Q := w_iload_n (by rfl) rfl
set_option maxRecDepth 100000 in
theorem s222_1221 {l0 l1 l2 l3 : Value}  : WP d 222 1221 [l0, l1, l2, l3] (st) X Q = WP d 222 1222 [l0, l1, l2, l3] (vI (3) :: st) X Q := w_iconst (by rfl)
set_option maxRecDepth 100000 in
theorem s222_1222 {l0 l1 l2 l3 : Value} {z1 : Int} {z2 : Int} : WP d 222 1222 [l0, l1, l2, l3] (vI z2 :: vI z1 :: st) X Q = WP d 222 1223 [l0, l1, l2, l3] (vI (z1 + z2) :: st) X Q := w_iadd (by rfl)
set_option maxRecDepth 100000 in
theorem s222_1223 {l0 l1 l2 l3 : Value} {j1 : Int} (hj : 0 ≤ j1 ∧ j1 < (L : Int)) (hm : L ≤ 2147483647) : WP d 222 1223 [l0, l1, l2, l3] (vI j1 :: .ref 1000 :: st) (N, L, M) Q = WP d 222 1224 [l0, l1, l2, l3] (M 1000 j1.toNat :: st) (N, L, M) Q := w_ialdS (by rfl) hj hm
set_option maxRecDepth 100000 in
theorem c222_1224 {l0 l1 l2 l3 : Value} {z1 : Int} {z2 : Int} {z3 : Int} {r : Int} {X' : q_H} (hN : 0 < N) (hS : Sp d 90 [.ref 0, vI z1, vI z2, vI z3] (N, L, M) (some (vI r)) X') : WP d 222 1224 [l0, l1, l2, l3] (vI z3 :: vI z2 :: vI z1 :: .ref 0 :: []) (N, L, M) Q = WP d 222 1227 [l0, l1, l2, l3] (vI r :: []) X' Q := w_callv (vs := [vI z1, vI z2, vI z3]) (by rfl) (by rfl) rfl (Nat.le_of_ble_eq_true rfl) (kd := 8) (by rfl) (by decide) (Or.inl hN) (by rfl) hS
set_option maxRecDepth 100000 in
theorem s222_1227 {l0 l1 l3 : Value}  : WP d 222 1227 [l0, l1, .ref 82, l3] (st) X Q = WP d 222 1228 [l0, l1, .ref 82, l3] (.ref 82 :: st) X Q := w_aload_n (by rfl) rfl (by decide)
set_option maxRecDepth 100000 in
theorem s222_1228 {l1 l2 l3 : Value}  : WP d 222 1228 [.ref 1000, l1, l2, l3] (st) X Q = WP d 222 1229 [.ref 1000, l1, l2, l3] (.ref 1000 :: st) X Q := w_aload_n (by rfl) rfl (by decide)
set_option maxRecDepth 100000 in
theorem s222_1229 {l0 l1 l2 : Value} {z1 : Int} : WP d 222 1229 [l0, l1, l2, vI z1] (st) X Q = WP d 222 1230 [l0, l1, l2, vI z1] (vI z1 :: st) X Q := w_iload_n (by rfl) rfl
set_option maxRecDepth 100000 in
theorem s222_1230 {l0 l1 l2 l3 : Value}  : WP d 222 1230 [l0, l1, l2, l3] (st) X Q = WP d 222 1231 [l0, l1, l2, l3] (vI (1) :: st) X Q := w_iconst (by rfl)
set_option maxRecDepth 100000 in
theorem s222_1231 {l0 l1 l2 l3 : Value} {z1 : Int} {z2 : Int} : WP d 222 1231 [l0, l1, l2, l3] (vI z2 :: vI z1 :: st) X Q = WP d 222 1232 [l0, l1, l2, l3] (vI (z1 + z2) :: st) X Q := w_iadd (by rfl)
set_option maxRecDepth 100000 in
theorem s222_1232 {l0 l1 l2 l3 : Value} {j1 : Int} (hj : 0 ≤ j1 ∧ j1 < (L : Int)) (hm : L ≤ 2147483647) : WP d 222 1232 [l0, l1, l2, l3] (vI j1 :: .ref 1000 :: st) (N, L, M) Q = WP d 222 1233 [l0, l1, l2, l3] (M 1000 j1.toNat :: st) (N, L, M) Q := w_ialdS (by rfl) hj hm
set_option maxRecDepth 100000 in
theorem s222_1233 {l1 l2 l3 : Value}  : WP d 222 1233 [.ref 1000, l1, l2, l3] (st) X Q = WP d 222 1234 [.ref 1000, l1, l2, l3] (.ref 1000 :: st) X Q := w_aload_n (by rfl) rfl (by decide)
set_option maxRecDepth 100000 in
theorem s222_1234 {l0 l1 l2 : Value} {z1 : Int} : WP d 222 1234 [l0, l1, l2, vI z1] (st) X Q = WP d 222 1235 [l0, l1, l2, vI z1] (vI z1 :: st) X Q := w_iload_n (by rfl) rfl
set_option maxRecDepth 100000 in
theorem s222_1235 {l0 l1 l2 l3 : Value}  : WP d 222 1235 [l0, l1, l2, l3] (st) X Q = WP d 222 1236 [l0, l1, l2, l3] (vI (2) :: st) X Q := w_iconst (by rfl)
set_option maxRecDepth 100000 in
theorem s222_1236 {l0 l1 l2 l3 : Value} {z1 : Int} {z2 : Int} : WP d 222 1236 [l0, l1, l2, l3] (vI z2 :: vI z1 :: st) X Q = WP d 222 1237 [l0, l1, l2, l3] (vI (z1 + z2) :: st) X Q := w_iadd (by rfl)
set_option maxRecDepth 100000 in
theorem s222_1237 {l0 l1 l2 l3 : Value} {j1 : Int} (hj : 0 ≤ j1 ∧ j1 < (L : Int)) (hm : L ≤ 2147483647) : WP d 222 1237 [l0, l1, l2, l3] (vI j1 :: .ref 1000 :: st) (N, L, M) Q = WP d 222 1238 [l0, l1, l2, l3] (M 1000 j1.toNat :: st) (N, L, M) Q := w_ialdS (by rfl) hj hm
set_option maxRecDepth 100000 in
theorem s222_1238 {l1 l2 l3 : Value}  : WP d 222 1238 [.ref 1000, l1, l2, l3] (st) X Q = WP d 222 1239 [.ref 1000, l1, l2, l3] (.ref 1000 :: st) X Q := w_aload_n (by rfl) rfl (by decide)
set_option maxRecDepth 100000 in
theorem s222_1239 {l0 l1 l2 : Value} {z1 : Int} : WP d 222 1239 [l0, l1, l2, vI z1] (st) X Q = WP d 222 1240 [l0, l1, l2, vI z1] (vI z1 :: st) X Q := w_iload_n (by rfl) rfl
set_option maxRecDepth 100000 in
theorem s222_1240 {l0 l1 l2 l3 : Value}  : WP d 222 1240 [l0, l1, l2, l3] (st) X Q = WP d 222 1241 [l0, l1, l2, l3] (vI (3) :: st) X Q := w_iconst (by rfl)
set_option maxRecDepth 100000 in
theorem s222_1241 {l0 l1 l2 l3 : Value} {z1 : Int} {z2 : Int} : WP d 222 1241 [l0, l1, l2, l3] (vI z2 :: vI z1 :: st) X Q = WP d 222 1242 [l0, l1, l2, l3] (vI (z1 + z2) :: st) X Q := w_iadd (by rfl)
set_option maxRecDepth 100000 in
theorem s222_1242 {l0 l1 l2 l3 : Value} {j1 : Int} (hj : 0 ≤ j1 ∧ j1 < (L : Int)) (hm : L ≤ 2147483647) : WP d 222 1242 [l0, l1, l2, l3] (vI j1 :: .ref 1000 :: st) (N, L, M) Q = WP d 222 1243 [l0, l1, l2, l3] (M 1000 j1.toNat :: st) (N, L, M) Q := w_ialdS (by rfl) hj hm
set_option maxRecDepth 100000 in
theorem c222_1243 {l0 l1 l2 l3 : Value} {x0 : Value} {z1 : Int} {z2 : Int} {z3 : Int} {r : Int} {X' : q_H} (hN : 82 < N) (hS : Sp d 202 [.ref 82, vI z1, vI z2, vI z3] (N, L, M) (some (vI r)) X') : WP d 222 1243 [l0, l1, l2, l3] (vI z3 :: vI z2 :: vI z1 :: .ref 82 :: x0 :: []) (N, L, M) Q = WP d 222 1246 [l0, l1, l2, l3] (vI r :: x0 :: []) X' Q := w_callv (vs := [vI z1, vI z2, vI z3]) (by rfl) (by rfl) rfl (Nat.le_of_ble_eq_true rfl) (kd := 9) (by rfl) (by decide) (Or.inl hN) (by rfl) hS
set_option maxRecDepth 100000 in
theorem s222_1246 {l0 l1 l2 l3 : Value} {z1 : Int} {z2 : Int} (h1 : -2147483648 ≤ z1 ∧ z1 ≤ 2147483647) (h2 : -2147483648 ≤ z2 ∧ z2 ≤ 2147483647) : WP d 222 1246 [l0, l1, l2, l3] (vI z2 :: vI z1 :: st) X Q = if z1 = z2 then WP d 222 1421 [l0, l1, l2, l3] (st) X Q else WP d 222 1249 [l0, l1, l2, l3] (st) X Q := w_icmpeq (by rfl) (by decide) h1 h2
set_option maxRecDepth 100000 in
theorem s222_1246b {l0 l1 l2 l3 : Value} {P R : Prop} [Decidable P] [Decidable R] : WP d 222 1246 [l0, l1, l2, l3] (vI (bI R) :: vI (bI P) :: st) X Q = if (P ↔ R) then WP d 222 1421 [l0, l1, l2, l3] (st) X Q else WP d 222 1249 [l0, l1, l2, l3] (st) X Q := w_icmpeqb (by rfl) (by decide)
set_option maxRecDepth 100000 in
theorem s222_1249 {l0 l1 l2 l3 : Value}  : WP d 222 1249 [l0, l1, l2, l3] (st) X Q = WP d 222 1250 [l0, l1, l2, l3] (vI (0) :: st) X Q := w_iconst (by rfl)
set_option maxRecDepth 100000 in
theorem s222_1250 {l0 l1 l2 l3 : Value} {z1 : Int} (hz : z1 = 0 ∨ z1 = 1) : WP d 222 1250 [l0, l1, l2, l3] (vI z1 :: []) X Q = Q (some (vI z1)) X := w_iretz (by rfl) (by rfl) (nb_bool hz)
set_option maxRecDepth 100000 in
theorem s222_1250b {l0 l1 l2 l3 : Value} {P : Prop} [Decidable P] : WP d 222 1250 [l0, l1, l2, l3] (vI (bI P) :: []) X Q = Q (some (vI (bI P))) X := w_iretz (by rfl) (by rfl) (nb_bool (bI_01 P))
set_option maxRecDepth 100000 in
theorem s222_1251 {l0 l2 l3 : Value}  : WP d 222 1251 [l0, .ref 0, l2, l3] (st) X Q = WP d 222 1252 [l0, .ref 0, l2, l3] (.ref 0 :: st) X Q := w_aload_n (by rfl) rfl (by decide)
set_option maxRecDepth 100000 in
theorem s222_1252 {l1 l2 l3 : Value}  : WP d 222 1252 [.ref 1000, l1, l2, l3] (st) X Q = WP d 222 1253 [.ref 1000, l1, l2, l3] (.ref 1000 :: st) X Q := w_aload_n (by rfl) rfl (by decide)
set_option maxRecDepth 100000 in
theorem s222_1253 {l0 l1 l2 : Value} {z1 : Int} : WP d 222 1253 [l0, l1, l2, vI z1] (st) X Q = WP d 222 1254 [l0, l1, l2, vI z1] (vI z1 :: st) X Q := w_iload_n (by rfl) rfl
set_option maxRecDepth 100000 in
theorem s222_1254 {l0 l1 l2 l3 : Value}  : WP d 222 1254 [l0, l1, l2, l3] (st) X Q = WP d 222 1255 [l0, l1, l2, l3] (vI (1) :: st) X Q := w_iconst (by rfl)
set_option maxRecDepth 100000 in
theorem s222_1255 {l0 l1 l2 l3 : Value} {z1 : Int} {z2 : Int} : WP d 222 1255 [l0, l1, l2, l3] (vI z2 :: vI z1 :: st) X Q = WP d 222 1256 [l0, l1, l2, l3] (vI (z1 + z2) :: st) X Q := w_iadd (by rfl)
set_option maxRecDepth 100000 in
theorem s222_1256 {l0 l1 l2 l3 : Value} {j1 : Int} (hj : 0 ≤ j1 ∧ j1 < (L : Int)) (hm : L ≤ 2147483647) : WP d 222 1256 [l0, l1, l2, l3] (vI j1 :: .ref 1000 :: st) (N, L, M) Q = WP d 222 1257 [l0, l1, l2, l3] (M 1000 j1.toNat :: st) (N, L, M) Q := w_ialdS (by rfl) hj hm
set_option maxRecDepth 100000 in
theorem s222_1257 {l1 l2 l3 : Value}  : WP d 222 1257 [.ref 1000, l1, l2, l3] (st) X Q = WP d 222 1258 [.ref 1000, l1, l2, l3] (.ref 1000 :: st) X Q := w_aload_n (by rfl) rfl (by decide)
set_option maxRecDepth 100000 in
theorem s222_1258 {l0 l1 l2 : Value} {z1 : Int} : WP d 222 1258 [l0, l1, l2, vI z1] (st) X Q = WP d 222 1259 [l0, l1, l2, vI z1] (vI z1 :: st) X Q := w_iload_n (by rfl) rfl
set_option maxRecDepth 100000 in
theorem s222_1259 {l0 l1 l2 l3 : Value}  : WP d 222 1259 [l0, l1, l2, l3] (st) X Q = WP d 222 1260 [l0, l1, l2, l3] (vI (2) :: st) X Q := w_iconst (by rfl)
set_option maxRecDepth 100000 in
theorem s222_1260 {l0 l1 l2 l3 : Value} {z1 : Int} {z2 : Int} : WP d 222 1260 [l0, l1, l2, l3] (vI z2 :: vI z1 :: st) X Q = WP d 222 1261 [l0, l1, l2, l3] (vI (z1 + z2) :: st) X Q := w_iadd (by rfl)
set_option maxRecDepth 100000 in
theorem s222_1261 {l0 l1 l2 l3 : Value} {j1 : Int} (hj : 0 ≤ j1 ∧ j1 < (L : Int)) (hm : L ≤ 2147483647) : WP d 222 1261 [l0, l1, l2, l3] (vI j1 :: .ref 1000 :: st) (N, L, M) Q = WP d 222 1262 [l0, l1, l2, l3] (M 1000 j1.toNat :: st) (N, L, M) Q := w_ialdS (by rfl) hj hm
set_option maxRecDepth 100000 in
theorem s222_1262 {l1 l2 l3 : Value}  : WP d 222 1262 [.ref 1000, l1, l2, l3] (st) X Q = WP d 222 1263 [.ref 1000, l1, l2, l3] (.ref 1000 :: st) X Q := w_aload_n (by rfl) rfl (by decide)
set_option maxRecDepth 100000 in
theorem s222_1263 {l0 l1 l2 : Value} {z1 : Int} : WP d 222 1263 [l0, l1, l2, vI z1] (st) X Q = WP d 222 1264 [l0, l1, l2, vI z1] (vI z1 :: st) X Q := w_iload_n (by rfl) rfl
set_option maxRecDepth 100000 in
theorem s222_1264 {l0 l1 l2 l3 : Value}  : WP d 222 1264 [l0, l1, l2, l3] (st) X Q = WP d 222 1265 [l0, l1, l2, l3] (vI (3) :: st) X Q := w_iconst (by rfl)
set_option maxRecDepth 100000 in
theorem s222_1265 {l0 l1 l2 l3 : Value} {z1 : Int} {z2 : Int} : WP d 222 1265 [l0, l1, l2, l3] (vI z2 :: vI z1 :: st) X Q = WP d 222 1266 [l0, l1, l2, l3] (vI (z1 + z2) :: st) X Q := w_iadd (by rfl)
set_option maxRecDepth 100000 in
theorem s222_1266 {l0 l1 l2 l3 : Value} {j1 : Int} (hj : 0 ≤ j1 ∧ j1 < (L : Int)) (hm : L ≤ 2147483647) : WP d 222 1266 [l0, l1, l2, l3] (vI j1 :: .ref 1000 :: st) (N, L, M) Q = WP d 222 1267 [l0, l1, l2, l3] (M 1000 j1.toNat :: st) (N, L, M) Q := w_ialdS (by rfl) hj hm
set_option maxRecDepth 100000 in
theorem s222_1267 {l0 l1 l2 l3 : Value} {z1 : Int} (h1 : -2147483648 ≤ z1 ∧ z1 ≤ 2147483647) : WP d 222 1267 [l0, l1, l2, l3] (vI z1 :: st) X Q = WP d 222 1268 [l0, l1, l2, l3] (vL z1 :: st) X Q := w_i2l (by rfl) h1
set_option maxRecDepth 100000 in
theorem s222_1268 {l0 l1 l2 l3 : Value}  : WP d 222 1268 [l0, l1, l2, l3] (st) X Q = WP d 222 1270 [l0, l1, l2, l3] (vI (32) :: st) X Q := w_bipush (by rfl) (by decide)
set_option maxRecDepth 100000 in
theorem s222_1270 {l0 l1 l2 l3 : Value} {z1 : Int} {z2 : Int} : WP d 222 1270 [l0, l1, l2, l3] (vI z2 :: vL z1 :: st) X Q = WP d 222 1271 [l0, l1, l2, l3] (vL (lshl z1 z2) :: st) X Q := w_lshl (by rfl)
set_option maxRecDepth 100000 in
theorem s222_1271 {l1 l2 l3 : Value}  : WP d 222 1271 [.ref 1000, l1, l2, l3] (st) X Q = WP d 222 1272 [.ref 1000, l1, l2, l3] (.ref 1000 :: st) X Q := w_aload_n (by rfl) rfl (by decide)
set_option maxRecDepth 100000 in
theorem s222_1272 {l0 l1 l2 : Value} {z1 : Int} : WP d 222 1272 [l0, l1, l2, vI z1] (st) X Q = WP d 222 1273 [l0, l1, l2, vI z1] (vI z1 :: st) X Q := w_iload_n (by rfl) rfl
set_option maxRecDepth 100000 in
theorem s222_1273 {l0 l1 l2 l3 : Value}  : WP d 222 1273 [l0, l1, l2, l3] (st) X Q = WP d 222 1274 [l0, l1, l2, l3] (vI (4) :: st) X Q := w_iconst (by rfl)
set_option maxRecDepth 100000 in
theorem s222_1274 {l0 l1 l2 l3 : Value} {z1 : Int} {z2 : Int} : WP d 222 1274 [l0, l1, l2, l3] (vI z2 :: vI z1 :: st) X Q = WP d 222 1275 [l0, l1, l2, l3] (vI (z1 + z2) :: st) X Q := w_iadd (by rfl)
set_option maxRecDepth 100000 in
theorem s222_1275 {l0 l1 l2 l3 : Value} {j1 : Int} (hj : 0 ≤ j1 ∧ j1 < (L : Int)) (hm : L ≤ 2147483647) : WP d 222 1275 [l0, l1, l2, l3] (vI j1 :: .ref 1000 :: st) (N, L, M) Q = WP d 222 1276 [l0, l1, l2, l3] (M 1000 j1.toNat :: st) (N, L, M) Q := w_ialdS (by rfl) hj hm
set_option maxRecDepth 100000 in
theorem s222_1276 {l0 l1 l2 l3 : Value} {z1 : Int} (h1 : -2147483648 ≤ z1 ∧ z1 ≤ 2147483647) : WP d 222 1276 [l0, l1, l2, l3] (vI z1 :: st) X Q = WP d 222 1277 [l0, l1, l2, l3] (vL z1 :: st) X Q := w_i2l (by rfl) h1
set_option maxRecDepth 100000 in
theorem s222_1277 {l0 l1 l2 l3 : Value}  : WP d 222 1277 [l0, l1, l2, l3] (st) X Q = WP d 222 1280 [l0, l1, l2, l3] (vL (4294967295) :: st) X Q := w_ldc2 (by rfl) (z := 4294967295) (by rfl)
set_option maxRecDepth 100000 in
theorem s222_1280 {l0 l1 l2 l3 : Value} {z1 : Int} {z2 : Int} : WP d 222 1280 [l0, l1, l2, l3] (vL z2 :: vL z1 :: st) X Q = WP d 222 1281 [l0, l1, l2, l3] (vL (land z1 z2) :: st) X Q := w_land (by rfl)
set_option maxRecDepth 100000 in
theorem s222_1281 {l0 l1 l2 l3 : Value} {z1 : Int} {z2 : Int} : WP d 222 1281 [l0, l1, l2, l3] (vL z2 :: vL z1 :: st) X Q = WP d 222 1282 [l0, l1, l2, l3] (vL (lor z1 z2) :: st) X Q := w_lor (by rfl)
set_option maxRecDepth 100000 in
theorem c222_1282 {l0 l1 l2 l3 : Value} {z1 : Int} {z2 : Int} {z3 : Int} {r : Int} {X' : q_H} (hN : 0 < N) (hS : Sp d 91 [.ref 0, vI z1, vI z2, vL z3] (N, L, M) (some (vI r)) X') : WP d 222 1282 [l0, l1, l2, l3] (vL z3 :: vI z2 :: vI z1 :: .ref 0 :: []) (N, L, M) Q = WP d 222 1285 [l0, l1, l2, l3] (vI r :: []) X' Q := w_callv (vs := [vI z1, vI z2, vL z3]) (by rfl) (by rfl) rfl (Nat.le_of_ble_eq_true rfl) (kd := 8) (by rfl) (by decide) (Or.inl hN) (by rfl) hS
set_option maxRecDepth 100000 in
theorem s222_1285 {l0 l1 l3 : Value}  : WP d 222 1285 [l0, l1, .ref 82, l3] (st) X Q = WP d 222 1286 [l0, l1, .ref 82, l3] (.ref 82 :: st) X Q := w_aload_n (by rfl) rfl (by decide)
set_option maxRecDepth 100000 in
theorem s222_1286 {l1 l2 l3 : Value}  : WP d 222 1286 [.ref 1000, l1, l2, l3] (st) X Q = WP d 222 1287 [.ref 1000, l1, l2, l3] (.ref 1000 :: st) X Q := w_aload_n (by rfl) rfl (by decide)
set_option maxRecDepth 100000 in
theorem s222_1287 {l0 l1 l2 : Value} {z1 : Int} : WP d 222 1287 [l0, l1, l2, vI z1] (st) X Q = WP d 222 1288 [l0, l1, l2, vI z1] (vI z1 :: st) X Q := w_iload_n (by rfl) rfl
set_option maxRecDepth 100000 in
theorem s222_1288 {l0 l1 l2 l3 : Value}  : WP d 222 1288 [l0, l1, l2, l3] (st) X Q = WP d 222 1289 [l0, l1, l2, l3] (vI (1) :: st) X Q := w_iconst (by rfl)
set_option maxRecDepth 100000 in
theorem s222_1289 {l0 l1 l2 l3 : Value} {z1 : Int} {z2 : Int} : WP d 222 1289 [l0, l1, l2, l3] (vI z2 :: vI z1 :: st) X Q = WP d 222 1290 [l0, l1, l2, l3] (vI (z1 + z2) :: st) X Q := w_iadd (by rfl)
set_option maxRecDepth 100000 in
theorem s222_1290 {l0 l1 l2 l3 : Value} {j1 : Int} (hj : 0 ≤ j1 ∧ j1 < (L : Int)) (hm : L ≤ 2147483647) : WP d 222 1290 [l0, l1, l2, l3] (vI j1 :: .ref 1000 :: st) (N, L, M) Q = WP d 222 1291 [l0, l1, l2, l3] (M 1000 j1.toNat :: st) (N, L, M) Q := w_ialdS (by rfl) hj hm
set_option maxRecDepth 100000 in
theorem s222_1291 {l1 l2 l3 : Value}  : WP d 222 1291 [.ref 1000, l1, l2, l3] (st) X Q = WP d 222 1292 [.ref 1000, l1, l2, l3] (.ref 1000 :: st) X Q := w_aload_n (by rfl) rfl (by decide)
set_option maxRecDepth 100000 in
theorem s222_1292 {l0 l1 l2 : Value} {z1 : Int} : WP d 222 1292 [l0, l1, l2, vI z1] (st) X Q = WP d 222 1293 [l0, l1, l2, vI z1] (vI z1 :: st) X Q := w_iload_n (by rfl) rfl
set_option maxRecDepth 100000 in
theorem s222_1293 {l0 l1 l2 l3 : Value}  : WP d 222 1293 [l0, l1, l2, l3] (st) X Q = WP d 222 1294 [l0, l1, l2, l3] (vI (2) :: st) X Q := w_iconst (by rfl)
set_option maxRecDepth 100000 in
theorem s222_1294 {l0 l1 l2 l3 : Value} {z1 : Int} {z2 : Int} : WP d 222 1294 [l0, l1, l2, l3] (vI z2 :: vI z1 :: st) X Q = WP d 222 1295 [l0, l1, l2, l3] (vI (z1 + z2) :: st) X Q := w_iadd (by rfl)
set_option maxRecDepth 100000 in
theorem s222_1295 {l0 l1 l2 l3 : Value} {j1 : Int} (hj : 0 ≤ j1 ∧ j1 < (L : Int)) (hm : L ≤ 2147483647) : WP d 222 1295 [l0, l1, l2, l3] (vI j1 :: .ref 1000 :: st) (N, L, M) Q = WP d 222 1296 [l0, l1, l2, l3] (M 1000 j1.toNat :: st) (N, L, M) Q := w_ialdS (by rfl) hj hm
set_option maxRecDepth 100000 in
theorem s222_1296 {l1 l2 l3 : Value}  : WP d 222 1296 [.ref 1000, l1, l2, l3] (st) X Q = WP d 222 1297 [.ref 1000, l1, l2, l3] (.ref 1000 :: st) X Q := w_aload_n (by rfl) rfl (by decide)
set_option maxRecDepth 100000 in
theorem s222_1297 {l0 l1 l2 : Value} {z1 : Int} : WP d 222 1297 [l0, l1, l2, vI z1] (st) X Q = WP d 222 1298 [l0, l1, l2, vI z1] (vI z1 :: st) X Q := w_iload_n (by rfl) rfl
set_option maxRecDepth 100000 in
theorem s222_1298 {l0 l1 l2 l3 : Value}  : WP d 222 1298 [l0, l1, l2, l3] (st) X Q = WP d 222 1299 [l0, l1, l2, l3] (vI (3) :: st) X Q := w_iconst (by rfl)
set_option maxRecDepth 100000 in
theorem s222_1299 {l0 l1 l2 l3 : Value} {z1 : Int} {z2 : Int} : WP d 222 1299 [l0, l1, l2, l3] (vI z2 :: vI z1 :: st) X Q = WP d 222 1300 [l0, l1, l2, l3] (vI (z1 + z2) :: st) X Q := w_iadd (by rfl)
set_option maxRecDepth 100000 in
theorem s222_1300 {l0 l1 l2 l3 : Value} {j1 : Int} (hj : 0 ≤ j1 ∧ j1 < (L : Int)) (hm : L ≤ 2147483647) : WP d 222 1300 [l0, l1, l2, l3] (vI j1 :: .ref 1000 :: st) (N, L, M) Q = WP d 222 1301 [l0, l1, l2, l3] (M 1000 j1.toNat :: st) (N, L, M) Q := w_ialdS (by rfl) hj hm
set_option maxRecDepth 100000 in
theorem s222_1301 {l0 l1 l2 l3 : Value} {z1 : Int} (h1 : -2147483648 ≤ z1 ∧ z1 ≤ 2147483647) : WP d 222 1301 [l0, l1, l2, l3] (vI z1 :: st) X Q = WP d 222 1302 [l0, l1, l2, l3] (vL z1 :: st) X Q := w_i2l (by rfl) h1
set_option maxRecDepth 100000 in
theorem s222_1302 {l0 l1 l2 l3 : Value}  : WP d 222 1302 [l0, l1, l2, l3] (st) X Q = WP d 222 1304 [l0, l1, l2, l3] (vI (32) :: st) X Q := w_bipush (by rfl) (by decide)
set_option maxRecDepth 100000 in
theorem s222_1304 {l0 l1 l2 l3 : Value} {z1 : Int} {z2 : Int} : WP d 222 1304 [l0, l1, l2, l3] (vI z2 :: vL z1 :: st) X Q = WP d 222 1305 [l0, l1, l2, l3] (vL (lshl z1 z2) :: st) X Q := w_lshl (by rfl)
set_option maxRecDepth 100000 in
theorem s222_1305 {l1 l2 l3 : Value}  : WP d 222 1305 [.ref 1000, l1, l2, l3] (st) X Q = WP d 222 1306 [.ref 1000, l1, l2, l3] (.ref 1000 :: st) X Q := w_aload_n (by rfl) rfl (by decide)
set_option maxRecDepth 100000 in
theorem s222_1306 {l0 l1 l2 : Value} {z1 : Int} : WP d 222 1306 [l0, l1, l2, vI z1] (st) X Q = WP d 222 1307 [l0, l1, l2, vI z1] (vI z1 :: st) X Q := w_iload_n (by rfl) rfl
set_option maxRecDepth 100000 in
theorem s222_1307 {l0 l1 l2 l3 : Value}  : WP d 222 1307 [l0, l1, l2, l3] (st) X Q = WP d 222 1308 [l0, l1, l2, l3] (vI (4) :: st) X Q := w_iconst (by rfl)
set_option maxRecDepth 100000 in
theorem s222_1308 {l0 l1 l2 l3 : Value} {z1 : Int} {z2 : Int} : WP d 222 1308 [l0, l1, l2, l3] (vI z2 :: vI z1 :: st) X Q = WP d 222 1309 [l0, l1, l2, l3] (vI (z1 + z2) :: st) X Q := w_iadd (by rfl)
set_option maxRecDepth 100000 in
theorem s222_1309 {l0 l1 l2 l3 : Value} {j1 : Int} (hj : 0 ≤ j1 ∧ j1 < (L : Int)) (hm : L ≤ 2147483647) : WP d 222 1309 [l0, l1, l2, l3] (vI j1 :: .ref 1000 :: st) (N, L, M) Q = WP d 222 1310 [l0, l1, l2, l3] (M 1000 j1.toNat :: st) (N, L, M) Q := w_ialdS (by rfl) hj hm
set_option maxRecDepth 100000 in
theorem s222_1310 {l0 l1 l2 l3 : Value} {z1 : Int} (h1 : -2147483648 ≤ z1 ∧ z1 ≤ 2147483647) : WP d 222 1310 [l0, l1, l2, l3] (vI z1 :: st) X Q = WP d 222 1311 [l0, l1, l2, l3] (vL z1 :: st) X Q := w_i2l (by rfl) h1
set_option maxRecDepth 100000 in
theorem s222_1311 {l0 l1 l2 l3 : Value}  : WP d 222 1311 [l0, l1, l2, l3] (st) X Q = WP d 222 1314 [l0, l1, l2, l3] (vL (4294967295) :: st) X Q := w_ldc2 (by rfl) (z := 4294967295) (by rfl)
set_option maxRecDepth 100000 in
theorem s222_1314 {l0 l1 l2 l3 : Value} {z1 : Int} {z2 : Int} : WP d 222 1314 [l0, l1, l2, l3] (vL z2 :: vL z1 :: st) X Q = WP d 222 1315 [l0, l1, l2, l3] (vL (land z1 z2) :: st) X Q := w_land (by rfl)
set_option maxRecDepth 100000 in
theorem s222_1315 {l0 l1 l2 l3 : Value} {z1 : Int} {z2 : Int} : WP d 222 1315 [l0, l1, l2, l3] (vL z2 :: vL z1 :: st) X Q = WP d 222 1316 [l0, l1, l2, l3] (vL (lor z1 z2) :: st) X Q := w_lor (by rfl)
set_option maxRecDepth 100000 in
theorem c222_1316 {l0 l1 l2 l3 : Value} {x0 : Value} {z1 : Int} {z2 : Int} {z3 : Int} {r : Int} {X' : q_H} (hN : 82 < N) (hS : Sp d 204 [.ref 82, vI z1, vI z2, vL z3] (N, L, M) (some (vI r)) X') : WP d 222 1316 [l0, l1, l2, l3] (vL z3 :: vI z2 :: vI z1 :: .ref 82 :: x0 :: []) (N, L, M) Q = WP d 222 1319 [l0, l1, l2, l3] (vI r :: x0 :: []) X' Q := w_callv (vs := [vI z1, vI z2, vL z3]) (by rfl) (by rfl) rfl (Nat.le_of_ble_eq_true rfl) (kd := 9) (by rfl) (by decide) (Or.inl hN) (by rfl) hS
set_option maxRecDepth 100000 in
theorem s222_1319 {l0 l1 l2 l3 : Value} {z1 : Int} {z2 : Int} (h1 : -2147483648 ≤ z1 ∧ z1 ≤ 2147483647) (h2 : -2147483648 ≤ z2 ∧ z2 ≤ 2147483647) : WP d 222 1319 [l0, l1, l2, l3] (vI z2 :: vI z1 :: st) X Q = if z1 = z2 then WP d 222 1421 [l0, l1, l2, l3] (st) X Q else WP d 222 1322 [l0, l1, l2, l3] (st) X Q := w_icmpeq (by rfl) (by decide) h1 h2
set_option maxRecDepth 100000 in
theorem s222_1319b {l0 l1 l2 l3 : Value} {P R : Prop} [Decidable P] [Decidable R] : WP d 222 1319 [l0, l1, l2, l3] (vI (bI R) :: vI (bI P) :: st) X Q = if (P ↔ R) then WP d 222 1421 [l0, l1, l2, l3] (st) X Q else WP d 222 1322 [l0, l1, l2, l3] (st) X Q := w_icmpeqb (by rfl) (by decide)
set_option maxRecDepth 100000 in
theorem s222_1322 {l0 l1 l2 l3 : Value}  : WP d 222 1322 [l0, l1, l2, l3] (st) X Q = WP d 222 1323 [l0, l1, l2, l3] (vI (0) :: st) X Q := w_iconst (by rfl)
set_option maxRecDepth 100000 in
theorem s222_1323 {l0 l1 l2 l3 : Value} {z1 : Int} (hz : z1 = 0 ∨ z1 = 1) : WP d 222 1323 [l0, l1, l2, l3] (vI z1 :: []) X Q = Q (some (vI z1)) X := w_iretz (by rfl) (by rfl) (nb_bool hz)
set_option maxRecDepth 100000 in
theorem s222_1323b {l0 l1 l2 l3 : Value} {P : Prop} [Decidable P] : WP d 222 1323 [l0, l1, l2, l3] (vI (bI P) :: []) X Q = Q (some (vI (bI P))) X := w_iretz (by rfl) (by rfl) (nb_bool (bI_01 P))
set_option maxRecDepth 100000 in
theorem s222_1324 {l0 l2 l3 : Value}  : WP d 222 1324 [l0, .ref 0, l2, l3] (st) X Q = WP d 222 1325 [l0, .ref 0, l2, l3] (.ref 0 :: st) X Q := w_aload_n (by rfl) rfl (by decide)
set_option maxRecDepth 100000 in
theorem s222_1325 {l1 l2 l3 : Value}  : WP d 222 1325 [.ref 1000, l1, l2, l3] (st) X Q = WP d 222 1326 [.ref 1000, l1, l2, l3] (.ref 1000 :: st) X Q := w_aload_n (by rfl) rfl (by decide)
set_option maxRecDepth 100000 in
theorem s222_1326 {l0 l1 l2 : Value} {z1 : Int} : WP d 222 1326 [l0, l1, l2, vI z1] (st) X Q = WP d 222 1327 [l0, l1, l2, vI z1] (vI z1 :: st) X Q := w_iload_n (by rfl) rfl
set_option maxRecDepth 100000 in
theorem s222_1327 {l0 l1 l2 l3 : Value}  : WP d 222 1327 [l0, l1, l2, l3] (st) X Q = WP d 222 1328 [l0, l1, l2, l3] (vI (1) :: st) X Q := w_iconst (by rfl)
set_option maxRecDepth 100000 in
theorem s222_1328 {l0 l1 l2 l3 : Value} {z1 : Int} {z2 : Int} : WP d 222 1328 [l0, l1, l2, l3] (vI z2 :: vI z1 :: st) X Q = WP d 222 1329 [l0, l1, l2, l3] (vI (z1 + z2) :: st) X Q := w_iadd (by rfl)
set_option maxRecDepth 100000 in
theorem s222_1329 {l0 l1 l2 l3 : Value} {j1 : Int} (hj : 0 ≤ j1 ∧ j1 < (L : Int)) (hm : L ≤ 2147483647) : WP d 222 1329 [l0, l1, l2, l3] (vI j1 :: .ref 1000 :: st) (N, L, M) Q = WP d 222 1330 [l0, l1, l2, l3] (M 1000 j1.toNat :: st) (N, L, M) Q := w_ialdS (by rfl) hj hm
set_option maxRecDepth 100000 in
theorem s222_1330 {l1 l2 l3 : Value}  : WP d 222 1330 [.ref 1000, l1, l2, l3] (st) X Q = WP d 222 1331 [.ref 1000, l1, l2, l3] (.ref 1000 :: st) X Q := w_aload_n (by rfl) rfl (by decide)
set_option maxRecDepth 100000 in
theorem s222_1331 {l0 l1 l2 : Value} {z1 : Int} : WP d 222 1331 [l0, l1, l2, vI z1] (st) X Q = WP d 222 1332 [l0, l1, l2, vI z1] (vI z1 :: st) X Q := w_iload_n (by rfl) rfl
set_option maxRecDepth 100000 in
theorem s222_1332 {l0 l1 l2 l3 : Value}  : WP d 222 1332 [l0, l1, l2, l3] (st) X Q = WP d 222 1333 [l0, l1, l2, l3] (vI (2) :: st) X Q := w_iconst (by rfl)
set_option maxRecDepth 100000 in
theorem s222_1333 {l0 l1 l2 l3 : Value} {z1 : Int} {z2 : Int} : WP d 222 1333 [l0, l1, l2, l3] (vI z2 :: vI z1 :: st) X Q = WP d 222 1334 [l0, l1, l2, l3] (vI (z1 + z2) :: st) X Q := w_iadd (by rfl)
set_option maxRecDepth 100000 in
theorem s222_1334 {l0 l1 l2 l3 : Value} {j1 : Int} (hj : 0 ≤ j1 ∧ j1 < (L : Int)) (hm : L ≤ 2147483647) : WP d 222 1334 [l0, l1, l2, l3] (vI j1 :: .ref 1000 :: st) (N, L, M) Q = WP d 222 1335 [l0, l1, l2, l3] (M 1000 j1.toNat :: st) (N, L, M) Q := w_ialdS (by rfl) hj hm
set_option maxRecDepth 100000 in
theorem c222_1335 {l0 l1 l2 l3 : Value} {z1 : Int} {z2 : Int} {r : Int} {X' : q_H} (hN : 0 < N) (hS : Sp d 92 [.ref 0, vI z1, vI z2] (N, L, M) (some (vL r)) X') : WP d 222 1335 [l0, l1, l2, l3] (vI z2 :: vI z1 :: .ref 0 :: []) (N, L, M) Q = WP d 222 1338 [l0, l1, l2, l3] (vL r :: []) X' Q := w_callv (vs := [vI z1, vI z2]) (by rfl) (by rfl) rfl (Nat.le_of_ble_eq_true rfl) (kd := 8) (by rfl) (by decide) (Or.inl hN) (by rfl) hS
set_option maxRecDepth 100000 in
theorem s222_1338 {l0 l1 l3 : Value}  : WP d 222 1338 [l0, l1, .ref 82, l3] (st) X Q = WP d 222 1339 [l0, l1, .ref 82, l3] (.ref 82 :: st) X Q := w_aload_n (by rfl) rfl (by decide)
set_option maxRecDepth 100000 in
theorem s222_1339 {l1 l2 l3 : Value}  : WP d 222 1339 [.ref 1000, l1, l2, l3] (st) X Q = WP d 222 1340 [.ref 1000, l1, l2, l3] (.ref 1000 :: st) X Q := w_aload_n (by rfl) rfl (by decide)
set_option maxRecDepth 100000 in
theorem s222_1340 {l0 l1 l2 : Value} {z1 : Int} : WP d 222 1340 [l0, l1, l2, vI z1] (st) X Q = WP d 222 1341 [l0, l1, l2, vI z1] (vI z1 :: st) X Q := w_iload_n (by rfl) rfl
set_option maxRecDepth 100000 in
theorem s222_1341 {l0 l1 l2 l3 : Value}  : WP d 222 1341 [l0, l1, l2, l3] (st) X Q = WP d 222 1342 [l0, l1, l2, l3] (vI (1) :: st) X Q := w_iconst (by rfl)
set_option maxRecDepth 100000 in
theorem s222_1342 {l0 l1 l2 l3 : Value} {z1 : Int} {z2 : Int} : WP d 222 1342 [l0, l1, l2, l3] (vI z2 :: vI z1 :: st) X Q = WP d 222 1343 [l0, l1, l2, l3] (vI (z1 + z2) :: st) X Q := w_iadd (by rfl)
set_option maxRecDepth 100000 in
theorem s222_1343 {l0 l1 l2 l3 : Value} {j1 : Int} (hj : 0 ≤ j1 ∧ j1 < (L : Int)) (hm : L ≤ 2147483647) : WP d 222 1343 [l0, l1, l2, l3] (vI j1 :: .ref 1000 :: st) (N, L, M) Q = WP d 222 1344 [l0, l1, l2, l3] (M 1000 j1.toNat :: st) (N, L, M) Q := w_ialdS (by rfl) hj hm
set_option maxRecDepth 100000 in
theorem s222_1344 {l1 l2 l3 : Value}  : WP d 222 1344 [.ref 1000, l1, l2, l3] (st) X Q = WP d 222 1345 [.ref 1000, l1, l2, l3] (.ref 1000 :: st) X Q := w_aload_n (by rfl) rfl (by decide)
set_option maxRecDepth 100000 in
theorem s222_1345 {l0 l1 l2 : Value} {z1 : Int} : WP d 222 1345 [l0, l1, l2, vI z1] (st) X Q = WP d 222 1346 [l0, l1, l2, vI z1] (vI z1 :: st) X Q := w_iload_n (by rfl) rfl
set_option maxRecDepth 100000 in
theorem s222_1346 {l0 l1 l2 l3 : Value}  : WP d 222 1346 [l0, l1, l2, l3] (st) X Q = WP d 222 1347 [l0, l1, l2, l3] (vI (2) :: st) X Q := w_iconst (by rfl)
set_option maxRecDepth 100000 in
theorem s222_1347 {l0 l1 l2 l3 : Value} {z1 : Int} {z2 : Int} : WP d 222 1347 [l0, l1, l2, l3] (vI z2 :: vI z1 :: st) X Q = WP d 222 1348 [l0, l1, l2, l3] (vI (z1 + z2) :: st) X Q := w_iadd (by rfl)
set_option maxRecDepth 100000 in
theorem s222_1348 {l0 l1 l2 l3 : Value} {j1 : Int} (hj : 0 ≤ j1 ∧ j1 < (L : Int)) (hm : L ≤ 2147483647) : WP d 222 1348 [l0, l1, l2, l3] (vI j1 :: .ref 1000 :: st) (N, L, M) Q = WP d 222 1349 [l0, l1, l2, l3] (M 1000 j1.toNat :: st) (N, L, M) Q := w_ialdS (by rfl) hj hm
set_option maxRecDepth 100000 in
theorem c222_1349 {l0 l1 l2 l3 : Value} {x0 : Value} {z1 : Int} {z2 : Int} {r : Int} {X' : q_H} (hN : 82 < N) (hS : Sp d 205 [.ref 82, vI z1, vI z2] (N, L, M) (some (vL r)) X') : WP d 222 1349 [l0, l1, l2, l3] (vI z2 :: vI z1 :: .ref 82 :: x0 :: []) (N, L, M) Q = WP d 222 1352 [l0, l1, l2, l3] (vL r :: x0 :: []) X' Q := w_callv (vs := [vI z1, vI z2]) (by rfl) (by rfl) rfl (Nat.le_of_ble_eq_true rfl) (kd := 9) (by rfl) (by decide) (Or.inl hN) (by rfl) hS
set_option maxRecDepth 100000 in
theorem s222_1352 {l0 l1 l2 l3 : Value} {z1 : Int} {z2 : Int} (h1 : -9223372036854775808 ≤ z1 ∧ z1 ≤ 9223372036854775807) (h2 : -9223372036854775808 ≤ z2 ∧ z2 ≤ 9223372036854775807) : WP d 222 1352 [l0, l1, l2, l3] (vL z2 :: vL z1 :: st) X Q = WP d 222 1353 [l0, l1, l2, l3] (vI (cmpz z1 z2) :: st) X Q := w_lcmp (by rfl) h1 h2
set_option maxRecDepth 100000 in
theorem s222_1353 {l0 l1 l2 l3 : Value} {z1 : Int} (h1 : -2147483648 ≤ z1 ∧ z1 ≤ 2147483647) : WP d 222 1353 [l0, l1, l2, l3] (vI z1 :: st) X Q = if z1 = 0 then WP d 222 1421 [l0, l1, l2, l3] (st) X Q else WP d 222 1356 [l0, l1, l2, l3] (st) X Q := w_ifeq (by rfl) (by decide) h1
set_option maxRecDepth 100000 in
theorem s222_1353b {l0 l1 l2 l3 : Value} {P : Prop} [Decidable P] : WP d 222 1353 [l0, l1, l2, l3] (vI (bI P) :: st) X Q = if P then WP d 222 1356 [l0, l1, l2, l3] (st) X Q else WP d 222 1421 [l0, l1, l2, l3] (st) X Q := w_ifeqb (by rfl) (by decide)
set_option maxRecDepth 100000 in
theorem s222_1356 {l0 l1 l2 l3 : Value}  : WP d 222 1356 [l0, l1, l2, l3] (st) X Q = WP d 222 1357 [l0, l1, l2, l3] (vI (0) :: st) X Q := w_iconst (by rfl)
set_option maxRecDepth 100000 in
theorem s222_1357 {l0 l1 l2 l3 : Value} {z1 : Int} (hz : z1 = 0 ∨ z1 = 1) : WP d 222 1357 [l0, l1, l2, l3] (vI z1 :: []) X Q = Q (some (vI z1)) X := w_iretz (by rfl) (by rfl) (nb_bool hz)
set_option maxRecDepth 100000 in
theorem s222_1357b {l0 l1 l2 l3 : Value} {P : Prop} [Decidable P] : WP d 222 1357 [l0, l1, l2, l3] (vI (bI P) :: []) X Q = Q (some (vI (bI P))) X := w_iretz (by rfl) (by rfl) (nb_bool (bI_01 P))
set_option maxRecDepth 100000 in
theorem s222_1358 {l0 l2 l3 : Value}  : WP d 222 1358 [l0, .ref 0, l2, l3] (st) X Q = WP d 222 1359 [l0, .ref 0, l2, l3] (.ref 0 :: st) X Q := w_aload_n (by rfl) rfl (by decide)
set_option maxRecDepth 100000 in
theorem s222_1359 {l1 l2 l3 : Value}  : WP d 222 1359 [.ref 1000, l1, l2, l3] (st) X Q = WP d 222 1360 [.ref 1000, l1, l2, l3] (.ref 1000 :: st) X Q := w_aload_n (by rfl) rfl (by decide)
set_option maxRecDepth 100000 in
theorem s222_1360 {l0 l1 l2 : Value} {z1 : Int} : WP d 222 1360 [l0, l1, l2, vI z1] (st) X Q = WP d 222 1361 [l0, l1, l2, vI z1] (vI z1 :: st) X Q := w_iload_n (by rfl) rfl
set_option maxRecDepth 100000 in
theorem s222_1361 {l0 l1 l2 l3 : Value}  : WP d 222 1361 [l0, l1, l2, l3] (st) X Q = WP d 222 1362 [l0, l1, l2, l3] (vI (1) :: st) X Q := w_iconst (by rfl)
set_option maxRecDepth 100000 in
theorem s222_1362 {l0 l1 l2 l3 : Value} {z1 : Int} {z2 : Int} : WP d 222 1362 [l0, l1, l2, l3] (vI z2 :: vI z1 :: st) X Q = WP d 222 1363 [l0, l1, l2, l3] (vI (z1 + z2) :: st) X Q := w_iadd (by rfl)
set_option maxRecDepth 100000 in
theorem s222_1363 {l0 l1 l2 l3 : Value} {j1 : Int} (hj : 0 ≤ j1 ∧ j1 < (L : Int)) (hm : L ≤ 2147483647) : WP d 222 1363 [l0, l1, l2, l3] (vI j1 :: .ref 1000 :: st) (N, L, M) Q = WP d 222 1364 [l0, l1, l2, l3] (M 1000 j1.toNat :: st) (N, L, M) Q := w_ialdS (by rfl) hj hm
set_option maxRecDepth 100000 in
theorem s222_1364 {l1 l2 l3 : Value}  : WP d 222 1364 [.ref 1000, l1, l2, l3] (st) X Q = WP d 222 1365 [.ref 1000, l1, l2, l3] (.ref 1000 :: st) X Q := w_aload_n (by rfl) rfl (by decide)
set_option maxRecDepth 100000 in
theorem s222_1365 {l0 l1 l2 : Value} {z1 : Int} : WP d 222 1365 [l0, l1, l2, vI z1] (st) X Q = WP d 222 1366 [l0, l1, l2, vI z1] (vI z1 :: st) X Q := w_iload_n (by rfl) rfl
set_option maxRecDepth 100000 in
theorem s222_1366 {l0 l1 l2 l3 : Value}  : WP d 222 1366 [l0, l1, l2, l3] (st) X Q = WP d 222 1367 [l0, l1, l2, l3] (vI (2) :: st) X Q := w_iconst (by rfl)
set_option maxRecDepth 100000 in
theorem s222_1367 {l0 l1 l2 l3 : Value} {z1 : Int} {z2 : Int} : WP d 222 1367 [l0, l1, l2, l3] (vI z2 :: vI z1 :: st) X Q = WP d 222 1368 [l0, l1, l2, l3] (vI (z1 + z2) :: st) X Q := w_iadd (by rfl)
set_option maxRecDepth 100000 in
theorem s222_1368 {l0 l1 l2 l3 : Value} {j1 : Int} (hj : 0 ≤ j1 ∧ j1 < (L : Int)) (hm : L ≤ 2147483647) : WP d 222 1368 [l0, l1, l2, l3] (vI j1 :: .ref 1000 :: st) (N, L, M) Q = WP d 222 1369 [l0, l1, l2, l3] (M 1000 j1.toNat :: st) (N, L, M) Q := w_ialdS (by rfl) hj hm
set_option maxRecDepth 100000 in
theorem s222_1369 {l1 l2 l3 : Value}  : WP d 222 1369 [.ref 1000, l1, l2, l3] (st) X Q = WP d 222 1370 [.ref 1000, l1, l2, l3] (.ref 1000 :: st) X Q := w_aload_n (by rfl) rfl (by decide)
set_option maxRecDepth 100000 in
theorem s222_1370 {l0 l1 l2 : Value} {z1 : Int} : WP d 222 1370 [l0, l1, l2, vI z1] (st) X Q = WP d 222 1371 [l0, l1, l2, vI z1] (vI z1 :: st) X Q := w_iload_n (by rfl) rfl
set_option maxRecDepth 100000 in
theorem s222_1371 {l0 l1 l2 l3 : Value}  : WP d 222 1371 [l0, l1, l2, l3] (st) X Q = WP d 222 1372 [l0, l1, l2, l3] (vI (3) :: st) X Q := w_iconst (by rfl)
set_option maxRecDepth 100000 in
theorem s222_1372 {l0 l1 l2 l3 : Value} {z1 : Int} {z2 : Int} : WP d 222 1372 [l0, l1, l2, l3] (vI z2 :: vI z1 :: st) X Q = WP d 222 1373 [l0, l1, l2, l3] (vI (z1 + z2) :: st) X Q := w_iadd (by rfl)
set_option maxRecDepth 100000 in
theorem s222_1373 {l0 l1 l2 l3 : Value} {j1 : Int} (hj : 0 ≤ j1 ∧ j1 < (L : Int)) (hm : L ≤ 2147483647) : WP d 222 1373 [l0, l1, l2, l3] (vI j1 :: .ref 1000 :: st) (N, L, M) Q = WP d 222 1374 [l0, l1, l2, l3] (M 1000 j1.toNat :: st) (N, L, M) Q := w_ialdS (by rfl) hj hm
set_option maxRecDepth 100000 in
theorem s222_1374 {l1 l2 l3 : Value}  : WP d 222 1374 [.ref 1000, l1, l2, l3] (st) X Q = WP d 222 1375 [.ref 1000, l1, l2, l3] (.ref 1000 :: st) X Q := w_aload_n (by rfl) rfl (by decide)
set_option maxRecDepth 100000 in
theorem s222_1375 {l0 l1 l2 : Value} {z1 : Int} : WP d 222 1375 [l0, l1, l2, vI z1] (st) X Q = WP d 222 1376 [l0, l1, l2, vI z1] (vI z1 :: st) X Q := w_iload_n (by rfl) rfl
set_option maxRecDepth 100000 in
theorem s222_1376 {l0 l1 l2 l3 : Value}  : WP d 222 1376 [l0, l1, l2, l3] (st) X Q = WP d 222 1377 [l0, l1, l2, l3] (vI (4) :: st) X Q := w_iconst (by rfl)
set_option maxRecDepth 100000 in
theorem s222_1377 {l0 l1 l2 l3 : Value} {z1 : Int} {z2 : Int} : WP d 222 1377 [l0, l1, l2, l3] (vI z2 :: vI z1 :: st) X Q = WP d 222 1378 [l0, l1, l2, l3] (vI (z1 + z2) :: st) X Q := w_iadd (by rfl)
set_option maxRecDepth 100000 in
theorem s222_1378 {l0 l1 l2 l3 : Value} {j1 : Int} (hj : 0 ≤ j1 ∧ j1 < (L : Int)) (hm : L ≤ 2147483647) : WP d 222 1378 [l0, l1, l2, l3] (vI j1 :: .ref 1000 :: st) (N, L, M) Q = WP d 222 1379 [l0, l1, l2, l3] (M 1000 j1.toNat :: st) (N, L, M) Q := w_ialdS (by rfl) hj hm
set_option maxRecDepth 100000 in
theorem s222_1379 {l1 l2 l3 : Value}  : WP d 222 1379 [.ref 1000, l1, l2, l3] (st) X Q = WP d 222 1380 [.ref 1000, l1, l2, l3] (.ref 1000 :: st) X Q := w_aload_n (by rfl) rfl (by decide)
set_option maxRecDepth 100000 in
theorem s222_1380 {l0 l1 l2 : Value} {z1 : Int} : WP d 222 1380 [l0, l1, l2, vI z1] (st) X Q = WP d 222 1381 [l0, l1, l2, vI z1] (vI z1 :: st) X Q := w_iload_n (by rfl) rfl
set_option maxRecDepth 100000 in
theorem s222_1381 {l0 l1 l2 l3 : Value}  : WP d 222 1381 [l0, l1, l2, l3] (st) X Q = WP d 222 1382 [l0, l1, l2, l3] (vI (5) :: st) X Q := w_iconst (by rfl)
set_option maxRecDepth 100000 in
theorem s222_1382 {l0 l1 l2 l3 : Value} {z1 : Int} {z2 : Int} : WP d 222 1382 [l0, l1, l2, l3] (vI z2 :: vI z1 :: st) X Q = WP d 222 1383 [l0, l1, l2, l3] (vI (z1 + z2) :: st) X Q := w_iadd (by rfl)
set_option maxRecDepth 100000 in
theorem s222_1383 {l0 l1 l2 l3 : Value} {j1 : Int} (hj : 0 ≤ j1 ∧ j1 < (L : Int)) (hm : L ≤ 2147483647) : WP d 222 1383 [l0, l1, l2, l3] (vI j1 :: .ref 1000 :: st) (N, L, M) Q = WP d 222 1384 [l0, l1, l2, l3] (M 1000 j1.toNat :: st) (N, L, M) Q := w_ialdS (by rfl) hj hm
set_option maxRecDepth 100000 in
theorem c222_1384 {l0 l1 l2 l3 : Value} {z1 : Int} {z2 : Int} {z3 : Int} {z4 : Int} {z5 : Int} {r : Int} {X' : q_H} (hN : 0 < N) (hS : Sp d 93 [.ref 0, vI z1, vI z2, vI z3, vI z4, vI z5] (N, L, M) (some (vI r)) X') : WP d 222 1384 [l0, l1, l2, l3] (vI z5 :: vI z4 :: vI z3 :: vI z2 :: vI z1 :: .ref 0 :: []) (N, L, M) Q = WP d 222 1387 [l0, l1, l2, l3] (vI r :: []) X' Q := w_callv (vs := [vI z1, vI z2, vI z3, vI z4, vI z5]) (by rfl) (by rfl) rfl (Nat.le_of_ble_eq_true rfl) (kd := 8) (by rfl) (by decide) (Or.inl hN) (by rfl) hS
set_option maxRecDepth 100000 in
theorem s222_1387 {l0 l1 l3 : Value}  : WP d 222 1387 [l0, l1, .ref 82, l3] (st) X Q = WP d 222 1388 [l0, l1, .ref 82, l3] (.ref 82 :: st) X Q := w_aload_n (by rfl) rfl (by decide)
set_option maxRecDepth 100000 in
theorem s222_1388 {l1 l2 l3 : Value}  : WP d 222 1388 [.ref 1000, l1, l2, l3] (st) X Q = WP d 222 1389 [.ref 1000, l1, l2, l3] (.ref 1000 :: st) X Q := w_aload_n (by rfl) rfl (by decide)
set_option maxRecDepth 100000 in
theorem s222_1389 {l0 l1 l2 : Value} {z1 : Int} : WP d 222 1389 [l0, l1, l2, vI z1] (st) X Q = WP d 222 1390 [l0, l1, l2, vI z1] (vI z1 :: st) X Q := w_iload_n (by rfl) rfl
set_option maxRecDepth 100000 in
theorem s222_1390 {l0 l1 l2 l3 : Value}  : WP d 222 1390 [l0, l1, l2, l3] (st) X Q = WP d 222 1391 [l0, l1, l2, l3] (vI (1) :: st) X Q := w_iconst (by rfl)
set_option maxRecDepth 100000 in
theorem s222_1391 {l0 l1 l2 l3 : Value} {z1 : Int} {z2 : Int} : WP d 222 1391 [l0, l1, l2, l3] (vI z2 :: vI z1 :: st) X Q = WP d 222 1392 [l0, l1, l2, l3] (vI (z1 + z2) :: st) X Q := w_iadd (by rfl)
set_option maxRecDepth 100000 in
theorem s222_1392 {l0 l1 l2 l3 : Value} {j1 : Int} (hj : 0 ≤ j1 ∧ j1 < (L : Int)) (hm : L ≤ 2147483647) : WP d 222 1392 [l0, l1, l2, l3] (vI j1 :: .ref 1000 :: st) (N, L, M) Q = WP d 222 1393 [l0, l1, l2, l3] (M 1000 j1.toNat :: st) (N, L, M) Q := w_ialdS (by rfl) hj hm
set_option maxRecDepth 100000 in
theorem s222_1393 {l1 l2 l3 : Value}  : WP d 222 1393 [.ref 1000, l1, l2, l3] (st) X Q = WP d 222 1394 [.ref 1000, l1, l2, l3] (.ref 1000 :: st) X Q := w_aload_n (by rfl) rfl (by decide)
set_option maxRecDepth 100000 in
theorem s222_1394 {l0 l1 l2 : Value} {z1 : Int} : WP d 222 1394 [l0, l1, l2, vI z1] (st) X Q = WP d 222 1395 [l0, l1, l2, vI z1] (vI z1 :: st) X Q := w_iload_n (by rfl) rfl
set_option maxRecDepth 100000 in
theorem s222_1395 {l0 l1 l2 l3 : Value}  : WP d 222 1395 [l0, l1, l2, l3] (st) X Q = WP d 222 1396 [l0, l1, l2, l3] (vI (2) :: st) X Q := w_iconst (by rfl)
set_option maxRecDepth 100000 in
theorem s222_1396 {l0 l1 l2 l3 : Value} {z1 : Int} {z2 : Int} : WP d 222 1396 [l0, l1, l2, l3] (vI z2 :: vI z1 :: st) X Q = WP d 222 1397 [l0, l1, l2, l3] (vI (z1 + z2) :: st) X Q := w_iadd (by rfl)
set_option maxRecDepth 100000 in
theorem s222_1397 {l0 l1 l2 l3 : Value} {j1 : Int} (hj : 0 ≤ j1 ∧ j1 < (L : Int)) (hm : L ≤ 2147483647) : WP d 222 1397 [l0, l1, l2, l3] (vI j1 :: .ref 1000 :: st) (N, L, M) Q = WP d 222 1398 [l0, l1, l2, l3] (M 1000 j1.toNat :: st) (N, L, M) Q := w_ialdS (by rfl) hj hm
set_option maxRecDepth 100000 in
theorem s222_1398 {l1 l2 l3 : Value}  : WP d 222 1398 [.ref 1000, l1, l2, l3] (st) X Q = WP d 222 1399 [.ref 1000, l1, l2, l3] (.ref 1000 :: st) X Q := w_aload_n (by rfl) rfl (by decide)
set_option maxRecDepth 100000 in
theorem s222_1399 {l0 l1 l2 : Value} {z1 : Int} : WP d 222 1399 [l0, l1, l2, vI z1] (st) X Q = WP d 222 1400 [l0, l1, l2, vI z1] (vI z1 :: st) X Q := w_iload_n (by rfl) rfl
set_option maxRecDepth 100000 in
theorem s222_1400 {l0 l1 l2 l3 : Value}  : WP d 222 1400 [l0, l1, l2, l3] (st) X Q = WP d 222 1401 [l0, l1, l2, l3] (vI (3) :: st) X Q := w_iconst (by rfl)
set_option maxRecDepth 100000 in
theorem s222_1401 {l0 l1 l2 l3 : Value} {z1 : Int} {z2 : Int} : WP d 222 1401 [l0, l1, l2, l3] (vI z2 :: vI z1 :: st) X Q = WP d 222 1402 [l0, l1, l2, l3] (vI (z1 + z2) :: st) X Q := w_iadd (by rfl)
set_option maxRecDepth 100000 in
theorem s222_1402 {l0 l1 l2 l3 : Value} {j1 : Int} (hj : 0 ≤ j1 ∧ j1 < (L : Int)) (hm : L ≤ 2147483647) : WP d 222 1402 [l0, l1, l2, l3] (vI j1 :: .ref 1000 :: st) (N, L, M) Q = WP d 222 1403 [l0, l1, l2, l3] (M 1000 j1.toNat :: st) (N, L, M) Q := w_ialdS (by rfl) hj hm
set_option maxRecDepth 100000 in
theorem s222_1403 {l1 l2 l3 : Value}  : WP d 222 1403 [.ref 1000, l1, l2, l3] (st) X Q = WP d 222 1404 [.ref 1000, l1, l2, l3] (.ref 1000 :: st) X Q := w_aload_n (by rfl) rfl (by decide)
set_option maxRecDepth 100000 in
theorem s222_1404 {l0 l1 l2 : Value} {z1 : Int} : WP d 222 1404 [l0, l1, l2, vI z1] (st) X Q = WP d 222 1405 [l0, l1, l2, vI z1] (vI z1 :: st) X Q := w_iload_n (by rfl) rfl
set_option maxRecDepth 100000 in
theorem s222_1405 {l0 l1 l2 l3 : Value}  : WP d 222 1405 [l0, l1, l2, l3] (st) X Q = WP d 222 1406 [l0, l1, l2, l3] (vI (4) :: st) X Q := w_iconst (by rfl)
set_option maxRecDepth 100000 in
theorem s222_1406 {l0 l1 l2 l3 : Value} {z1 : Int} {z2 : Int} : WP d 222 1406 [l0, l1, l2, l3] (vI z2 :: vI z1 :: st) X Q = WP d 222 1407 [l0, l1, l2, l3] (vI (z1 + z2) :: st) X Q := w_iadd (by rfl)
set_option maxRecDepth 100000 in
theorem s222_1407 {l0 l1 l2 l3 : Value} {j1 : Int} (hj : 0 ≤ j1 ∧ j1 < (L : Int)) (hm : L ≤ 2147483647) : WP d 222 1407 [l0, l1, l2, l3] (vI j1 :: .ref 1000 :: st) (N, L, M) Q = WP d 222 1408 [l0, l1, l2, l3] (M 1000 j1.toNat :: st) (N, L, M) Q := w_ialdS (by rfl) hj hm
set_option maxRecDepth 100000 in
theorem s222_1408 {l1 l2 l3 : Value}  : WP d 222 1408 [.ref 1000, l1, l2, l3] (st) X Q = WP d 222 1409 [.ref 1000, l1, l2, l3] (.ref 1000 :: st) X Q := w_aload_n (by rfl) rfl (by decide)
set_option maxRecDepth 100000 in
theorem s222_1409 {l0 l1 l2 : Value} {z1 : Int} : WP d 222 1409 [l0, l1, l2, vI z1] (st) X Q = WP d 222 1410 [l0, l1, l2, vI z1] (vI z1 :: st) X Q := w_iload_n (by rfl) rfl
set_option maxRecDepth 100000 in
theorem s222_1410 {l0 l1 l2 l3 : Value}  : WP d 222 1410 [l0, l1, l2, l3] (st) X Q = WP d 222 1411 [l0, l1, l2, l3] (vI (5) :: st) X Q := w_iconst (by rfl)
set_option maxRecDepth 100000 in
theorem s222_1411 {l0 l1 l2 l3 : Value} {z1 : Int} {z2 : Int} : WP d 222 1411 [l0, l1, l2, l3] (vI z2 :: vI z1 :: st) X Q = WP d 222 1412 [l0, l1, l2, l3] (vI (z1 + z2) :: st) X Q := w_iadd (by rfl)
set_option maxRecDepth 100000 in
theorem s222_1412 {l0 l1 l2 l3 : Value} {j1 : Int} (hj : 0 ≤ j1 ∧ j1 < (L : Int)) (hm : L ≤ 2147483647) : WP d 222 1412 [l0, l1, l2, l3] (vI j1 :: .ref 1000 :: st) (N, L, M) Q = WP d 222 1413 [l0, l1, l2, l3] (M 1000 j1.toNat :: st) (N, L, M) Q := w_ialdS (by rfl) hj hm
set_option maxRecDepth 100000 in
theorem c222_1413 {l0 l1 l2 l3 : Value} {x0 : Value} {z1 : Int} {z2 : Int} {z3 : Int} {z4 : Int} {z5 : Int} {r : Int} {X' : q_H} (hN : 82 < N) (hS : Sp d 206 [.ref 82, vI z1, vI z2, vI z3, vI z4, vI z5] (N, L, M) (some (vI r)) X') : WP d 222 1413 [l0, l1, l2, l3] (vI z5 :: vI z4 :: vI z3 :: vI z2 :: vI z1 :: .ref 82 :: x0 :: []) (N, L, M) Q = WP d 222 1416 [l0, l1, l2, l3] (vI r :: x0 :: []) X' Q := w_callv (vs := [vI z1, vI z2, vI z3, vI z4, vI z5]) (by rfl) (by rfl) rfl (Nat.le_of_ble_eq_true rfl) (kd := 9) (by rfl) (by decide) (Or.inl hN) (by rfl) hS
set_option maxRecDepth 100000 in
theorem s222_1416 {l0 l1 l2 l3 : Value} {z1 : Int} {z2 : Int} (h1 : -2147483648 ≤ z1 ∧ z1 ≤ 2147483647) (h2 : -2147483648 ≤ z2 ∧ z2 ≤ 2147483647) : WP d 222 1416 [l0, l1, l2, l3] (vI z2 :: vI z1 :: st) X Q = if z1 = z2 then WP d 222 1421 [l0, l1, l2, l3] (st) X Q else WP d 222 1419 [l0, l1, l2, l3] (st) X Q := w_icmpeq (by rfl) (by decide) h1 h2
set_option maxRecDepth 100000 in
theorem s222_1416b {l0 l1 l2 l3 : Value} {P R : Prop} [Decidable P] [Decidable R] : WP d 222 1416 [l0, l1, l2, l3] (vI (bI R) :: vI (bI P) :: st) X Q = if (P ↔ R) then WP d 222 1421 [l0, l1, l2, l3] (st) X Q else WP d 222 1419 [l0, l1, l2, l3] (st) X Q := w_icmpeqb (by rfl) (by decide)
set_option maxRecDepth 100000 in
theorem s222_1419 {l0 l1 l2 l3 : Value}  : WP d 222 1419 [l0, l1, l2, l3] (st) X Q = WP d 222 1420 [l0, l1, l2, l3] (vI (0) :: st) X Q := w_iconst (by rfl)
set_option maxRecDepth 100000 in
theorem s222_1420 {l0 l1 l2 l3 : Value} {z1 : Int} (hz : z1 = 0 ∨ z1 = 1) : WP d 222 1420 [l0, l1, l2, l3] (vI z1 :: []) X Q = Q (some (vI z1)) X := w_iretz (by rfl) (by rfl) (nb_bool hz)
set_option maxRecDepth 100000 in
theorem s222_1420b {l0 l1 l2 l3 : Value} {P : Prop} [Decidable P] : WP d 222 1420 [l0, l1, l2, l3] (vI (bI P) :: []) X Q = Q (some (vI (bI P))) X := w_iretz (by rfl) (by rfl) (nb_bool (bI_01 P))
set_option maxRecDepth 100000 in
theorem s222_1421 {l0 l1 : Value} {z1 : Int} {b2 : Nat} : WP d 222 1421 [l0, l1, .ref b2, vI z1] (st) X Q = WP d 222 1424 [l0, l1, .ref b2, vI (z1 + 6)] (st) X Q := w_iinc (by rfl) rfl (q_okb_s rfl rfl) (Nat.le_of_ble_eq_true rfl) rfl
set_option maxRecDepth 100000 in
theorem s222_1424 {l0 l1 l2 l3 : Value}  : WP d 222 1424 [l0, l1, l2, l3] (st) X Q = WP d 222 18 [l0, l1, l2, l3] (st) X Q := w_goto (by rfl) (by decide)
set_option maxRecDepth 100000 in
theorem s222_1427 {l0 l1 l2 l3 : Value}  : WP d 222 1427 [l0, l1, l2, l3] (st) X Q = WP d 222 1428 [l0, l1, l2, l3] (vI (1) :: st) X Q := w_iconst (by rfl)
set_option maxRecDepth 100000 in
theorem s222_1428 {l0 l1 l2 l3 : Value} {z1 : Int} (hz : z1 = 0 ∨ z1 = 1) : WP d 222 1428 [l0, l1, l2, l3] (vI z1 :: []) X Q = Q (some (vI z1)) X := w_iretz (by rfl) (by rfl) (nb_bool hz)
set_option maxRecDepth 100000 in
theorem s222_1428b {l0 l1 l2 l3 : Value} {P : Prop} [Decidable P] : WP d 222 1428 [l0, l1, l2, l3] (vI (bI P) :: []) X Q = Q (some (vI (bI P))) X := w_iretz (by rfl) (by rfl) (nb_bool (bI_01 P))
end
