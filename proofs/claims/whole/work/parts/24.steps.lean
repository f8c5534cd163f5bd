/-! steps of the methods 108 to 162, by program (wip/whole/gen_steps2.py) -/
section
variable {d : Nat} {st : List Value} {N L : Nat} {M : Nat → Nat → Value} {X : q_H} {Q : Option Value → q_H → Prop}
/-! 108 BellsThatEatModel.<init> -/
theorem e108 {d : Nat} {X : q_H}  {r : Option Value} {X' : q_H} (hd : 1 ≤ d) (h : WP (d - 1) 108 0 [.ref 82] [] X (fun r1 X1 => r1 = r ∧ X1 = X')) : Sp d 108 [.ref 82] X r X' := Sp.of1 hd (vs := [.ref 82]) (ls := [.ref 82]) (by rfl) (by rfl) h
theorem E108 {d : Nat} {X : q_H}  {Q : Option Value → q_H → Prop} (hd : 1 ≤ d) (h : WP (d - 1) 108 0 [.ref 82] [] X Q) : ∃ r X', Sp d 108 [.ref 82] X r X' ∧ Q r X' := Sp.of2 hd (vs := [.ref 82]) (ls := [.ref 82]) (by rfl) (by rfl) h
theorem s108_0  : WP d 108 0 [.ref 82] (st) X Q = WP d 108 1 [.ref 82] (.ref 82 :: st) X Q := w_aload_n (by rfl) rfl (by decide)
theorem s108_1 {l0 : Value} {a1 : Nat} (ha : a1 ≠ 1004) : WP d 108 1 [l0] (.ref a1 :: []) X Q = WP d 108 4 [l0] ([]) X Q := w_obj (by rfl) (by rfl) ha (Nat.le_of_ble_eq_true rfl)
theorem s108_4  : WP d 108 4 [.ref 82] (st) X Q = WP d 108 5 [.ref 82] (.ref 82 :: st) X Q := w_aload_n (by rfl) rfl (by decide)
theorem s108_5 {l0 : Value}  : WP d 108 5 [l0] (st) X Q = WP d 108 6 [l0] (vI (0) :: st) X Q := w_iconst (by rfl)
theorem s108_6 {l0 : Value} {z1 : Int} (hN : 82 < N) : WP d 108 6 [l0] (vI z1 :: .ref 82 :: st) (N, L, M) Q = WP d 108 9 [l0] (st) (N, L, up M 82 0 (vI z1)) Q := w_putf (ci := 9) (by rfl) (by rfl) (by decide) hN (by rfl) (q_fit_int rfl _)
theorem s108_9  : WP d 108 9 [.ref 82] (st) X Q = WP d 108 10 [.ref 82] (.ref 82 :: st) X Q := w_aload_n (by rfl) rfl (by decide)
theorem s108_10 {l0 : Value}  : WP d 108 10 [l0] (st) X Q = WP d 108 11 [l0] (vI (0) :: st) X Q := w_iconst (by rfl)
theorem s108_11 {l0 : Value} {z1 : Int} (hN : 82 < N) : WP d 108 11 [l0] (vI z1 :: .ref 82 :: st) (N, L, M) Q = WP d 108 14 [l0] (st) (N, L, up M 82 1 (vI z1)) Q := w_putf (ci := 9) (by rfl) (by rfl) (by decide) hN (by rfl) (q_fit_int rfl _)
theorem s108_14  : WP d 108 14 [.ref 82] (st) X Q = WP d 108 15 [.ref 82] (.ref 82 :: st) X Q := w_aload_n (by rfl) rfl (by decide)
theorem s108_15 {l0 : Value}  : WP d 108 15 [l0] (st) X Q = WP d 108 16 [l0] (vI (0) :: st) X Q := w_iconst (by rfl)
theorem s108_16 {l0 : Value} {z1 : Int} (hN : 82 < N) : WP d 108 16 [l0] (vI z1 :: .ref 82 :: st) (N, L, M) Q = WP d 108 19 [l0] (st) (N, L, up M 82 2 (vI z1)) Q := w_putf (ci := 9) (by rfl) (by rfl) (by decide) hN (by rfl) (q_fit_int rfl _)
theorem s108_19  : WP d 108 19 [.ref 82] (st) X Q = WP d 108 20 [.ref 82] (.ref 82 :: st) X Q := w_aload_n (by rfl) rfl (by decide)
theorem s108_20 {l0 : Value}  : WP d 108 20 [l0] (st) X Q = WP d 108 22 [l0] (vI (6) :: st) X Q := w_bipush (by rfl) (by decide)
theorem s108_22 {l0 : Value} {z1 : Int} (hz : 0 ≤ z1 ∧ z1 < 100000) (hN : N < 1000) (hs : q_sh N = (16, z1.toNat)) : WP d 108 22 [l0] (vI z1 :: st) (N, L, M) Q = WP d 108 24 [l0] (.ref N :: st) (N + 1, L, mk M N (fun _ => vI 0)) Q := w_newa (by rfl) (k := 16) rfl (by decide) hN hz hs
theorem s108_24 {l0 : Value} {b1 : Nat} (hN : 82 < N) (hb : b1 ≠ 1004) : WP d 108 24 [l0] (.ref b1 :: .ref 82 :: st) (N, L, M) Q = WP d 108 27 [l0] (st) (N, L, up M 82 3 (.ref b1)) Q := w_putf (ci := 9) (by rfl) (by rfl) (by decide) hN (by rfl) (q_fit_ref rfl hb)
theorem s108_27  : WP d 108 27 [.ref 82] (st) X Q = WP d 108 28 [.ref 82] (.ref 82 :: st) X Q := w_aload_n (by rfl) rfl (by decide)
theorem s108_28 {l0 : Value}  : WP d 108 28 [l0] (st) X Q = WP d 108 30 [l0] (vI (6) :: st) X Q := w_bipush (by rfl) (by decide)
theorem s108_30 {l0 : Value} {z1 : Int} (hz : 0 ≤ z1 ∧ z1 < 100000) (hN : N < 1000) (hs : q_sh N = (16, z1.toNat)) : WP d 108 30 [l0] (vI z1 :: st) (N, L, M) Q = WP d 108 32 [l0] (.ref N :: st) (N + 1, L, mk M N (fun _ => vI 0)) Q := w_newa (by rfl) (k := 16) rfl (by decide) hN hz hs
theorem s108_32 {l0 : Value} {b1 : Nat} (hN : 82 < N) (hb : b1 ≠ 1004) : WP d 108 32 [l0] (.ref b1 :: .ref 82 :: st) (N, L, M) Q = WP d 108 35 [l0] (st) (N, L, up M 82 4 (.ref b1)) Q := w_putf (ci := 9) (by rfl) (by rfl) (by decide) hN (by rfl) (q_fit_ref rfl hb)
theorem s108_35  : WP d 108 35 [.ref 82] (st) X Q = WP d 108 36 [.ref 82] (.ref 82 :: st) X Q := w_aload_n (by rfl) rfl (by decide)
theorem s108_36 {l0 : Value}  : WP d 108 36 [l0] (st) X Q = WP d 108 38 [l0] (vI (6) :: st) X Q := w_bipush (by rfl) (by decide)
theorem s108_38 {l0 : Value} {z1 : Int} (hz : 0 ≤ z1 ∧ z1 < 100000) (hN : N < 1000) (hs : q_sh N = (16, z1.toNat)) : WP d 108 38 [l0] (vI z1 :: st) (N, L, M) Q = WP d 108 40 [l0] (.ref N :: st) (N + 1, L, mk M N (fun _ => vI 0)) Q := w_newa (by rfl) (k := 16) rfl (by decide) hN hz hs
theorem s108_40 {l0 : Value} {b1 : Nat} (hN : 82 < N) (hb : b1 ≠ 1004) : WP d 108 40 [l0] (.ref b1 :: .ref 82 :: st) (N, L, M) Q = WP d 108 43 [l0] (st) (N, L, up M 82 5 (.ref b1)) Q := w_putf (ci := 9) (by rfl) (by rfl) (by decide) hN (by rfl) (q_fit_ref rfl hb)
theorem s108_43  : WP d 108 43 [.ref 82] (st) X Q = WP d 108 44 [.ref 82] (.ref 82 :: st) X Q := w_aload_n (by rfl) rfl (by decide)
theorem s108_44 {l0 : Value}  : WP d 108 44 [l0] (st) X Q = WP d 108 46 [l0] (vI (24) :: st) X Q := w_bipush (by rfl) (by decide)
theorem s108_46 {l0 : Value} {z1 : Int} (hz : 0 ≤ z1 ∧ z1 < 100000) (hN : N < 1000) (hs : q_sh N = (16, z1.toNat)) : WP d 108 46 [l0] (vI z1 :: st) (N, L, M) Q = WP d 108 48 [l0] (.ref N :: st) (N + 1, L, mk M N (fun _ => vI 0)) Q := w_newa (by rfl) (k := 16) rfl (by decide) hN hz hs
theorem s108_48 {l0 : Value} {b1 : Nat} (hN : 82 < N) (hb : b1 ≠ 1004) : WP d 108 48 [l0] (.ref b1 :: .ref 82 :: st) (N, L, M) Q = WP d 108 51 [l0] (st) (N, L, up M 82 6 (.ref b1)) Q := w_putf (ci := 9) (by rfl) (by rfl) (by decide) hN (by rfl) (q_fit_ref rfl hb)
theorem s108_51  : WP d 108 51 [.ref 82] (st) X Q = WP d 108 52 [.ref 82] (.ref 82 :: st) X Q := w_aload_n (by rfl) rfl (by decide)
theorem s108_52 {l0 : Value}  : WP d 108 52 [l0] (st) X Q = WP d 108 53 [l0] (vI (4) :: st) X Q := w_iconst (by rfl)
theorem s108_53 {l0 : Value} {z1 : Int} (hz : 0 ≤ z1 ∧ z1 < 100000) (hN : N < 1000) (hs : q_sh N = (16, z1.toNat)) : WP d 108 53 [l0] (vI z1 :: st) (N, L, M) Q = WP d 108 55 [l0] (.ref N :: st) (N + 1, L, mk M N (fun _ => vI 0)) Q := w_newa (by rfl) (k := 16) rfl (by decide) hN hz hs
theorem s108_55 {l0 : Value} {a1 : Nat} : WP d 108 55 [l0] (.ref a1 :: st) X Q = WP d 108 56 [l0] (.ref a1 :: .ref a1 :: st) X Q := w_dup (by rfl) rfl
theorem s108_56 {l0 : Value}  : WP d 108 56 [l0] (st) X Q = WP d 108 57 [l0] (vI (0) :: st) X Q := w_iconst (by rfl)
theorem s108_57 {l0 : Value}  : WP d 108 57 [l0] (st) X Q = WP d 108 58 [l0] (vI (5) :: st) X Q := w_iconst (by rfl)
theorem s108_58 {l0 : Value} {j1 : Int} {z2 : Int} (hj : 0 ≤ j1 ∧ j1 < 4) (hN : 87 < N) : WP d 108 58 [l0] (vI z2 :: vI j1 :: .ref 87 :: st) (N, L, M) Q = WP d 108 59 [l0] (st) (N, L, up M 87 j1.toNat (vI z2)) Q := w_iast (by rfl) (m := 4) (by rfl) hN hj (by decide)
theorem s108_59 {l0 : Value} {a1 : Nat} : WP d 108 59 [l0] (.ref a1 :: st) X Q = WP d 108 60 [l0] (.ref a1 :: .ref a1 :: st) X Q := w_dup (by rfl) rfl
theorem s108_60 {l0 : Value}  : WP d 108 60 [l0] (st) X Q = WP d 108 61 [l0] (vI (1) :: st) X Q := w_iconst (by rfl)
theorem s108_61 {l0 : Value}  : WP d 108 61 [l0] (st) X Q = WP d 108 62 [l0] (vI (5) :: st) X Q := w_iconst (by rfl)
theorem s108_62 {l0 : Value} {j1 : Int} {z2 : Int} (hj : 0 ≤ j1 ∧ j1 < 4) (hN : 87 < N) : WP d 108 62 [l0] (vI z2 :: vI j1 :: .ref 87 :: st) (N, L, M) Q = WP d 108 63 [l0] (st) (N, L, up M 87 j1.toNat (vI z2)) Q := w_iast (by rfl) (m := 4) (by rfl) hN hj (by decide)
theorem s108_63 {l0 : Value} {a1 : Nat} : WP d 108 63 [l0] (.ref a1 :: st) X Q = WP d 108 64 [l0] (.ref a1 :: .ref a1 :: st) X Q := w_dup (by rfl) rfl
theorem s108_64 {l0 : Value}  : WP d 108 64 [l0] (st) X Q = WP d 108 65 [l0] (vI (2) :: st) X Q := w_iconst (by rfl)
theorem s108_65 {l0 : Value}  : WP d 108 65 [l0] (st) X Q = WP d 108 66 [l0] (vI (5) :: st) X Q := w_iconst (by rfl)
theorem s108_66 {l0 : Value} {j1 : Int} {z2 : Int} (hj : 0 ≤ j1 ∧ j1 < 4) (hN : 87 < N) : WP d 108 66 [l0] (vI z2 :: vI j1 :: .ref 87 :: st) (N, L, M) Q = WP d 108 67 [l0] (st) (N, L, up M 87 j1.toNat (vI z2)) Q := w_iast (by rfl) (m := 4) (by rfl) hN hj (by decide)
theorem s108_67 {l0 : Value} {a1 : Nat} : WP d 108 67 [l0] (.ref a1 :: st) X Q = WP d 108 68 [l0] (.ref a1 :: .ref a1 :: st) X Q := w_dup (by rfl) rfl
theorem s108_68 {l0 : Value}  : WP d 108 68 [l0] (st) X Q = WP d 108 69 [l0] (vI (3) :: st) X Q := w_iconst (by rfl)
theorem s108_69 {l0 : Value}  : WP d 108 69 [l0] (st) X Q = WP d 108 70 [l0] (vI (5) :: st) X Q := w_iconst (by rfl)
theorem s108_70 {l0 : Value} {j1 : Int} {z2 : Int} (hj : 0 ≤ j1 ∧ j1 < 4) (hN : 87 < N) : WP d 108 70 [l0] (vI z2 :: vI j1 :: .ref 87 :: st) (N, L, M) Q = WP d 108 71 [l0] (st) (N, L, up M 87 j1.toNat (vI z2)) Q := w_iast (by rfl) (m := 4) (by rfl) hN hj (by decide)
theorem s108_71 {l0 : Value} {b1 : Nat} (hN : 82 < N) (hb : b1 ≠ 1004) : WP d 108 71 [l0] (.ref b1 :: .ref 82 :: st) (N, L, M) Q = WP d 108 74 [l0] (st) (N, L, up M 82 7 (.ref b1)) Q := w_putf (ci := 9) (by rfl) (by rfl) (by decide) hN (by rfl) (q_fit_ref rfl hb)
theorem s108_74  : WP d 108 74 [.ref 82] (st) X Q = WP d 108 75 [.ref 82] (.ref 82 :: st) X Q := w_aload_n (by rfl) rfl (by decide)
theorem s108_75 {l0 : Value}  : WP d 108 75 [l0] (st) X Q = WP d 108 76 [l0] (vI (0) :: st) X Q := w_iconst (by rfl)
theorem s108_76 {l0 : Value} {z1 : Int} (hN : 82 < N) : WP d 108 76 [l0] (vI z1 :: .ref 82 :: st) (N, L, M) Q = WP d 108 79 [l0] (st) (N, L, up M 82 8 (vI z1)) Q := w_putf (ci := 9) (by rfl) (by rfl) (by decide) hN (by rfl) (q_fit_int rfl _)
theorem s108_79  : WP d 108 79 [.ref 82] (st) X Q = WP d 108 80 [.ref 82] (.ref 82 :: st) X Q := w_aload_n (by rfl) rfl (by decide)
theorem s108_80 {l0 : Value}  : WP d 108 80 [l0] (st) X Q = WP d 108 81 [l0] (vI (-1) :: st) X Q := w_iconst (by rfl)
theorem s108_81 {l0 : Value} {z1 : Int} (hN : 82 < N) : WP d 108 81 [l0] (vI z1 :: .ref 82 :: st) (N, L, M) Q = WP d 108 84 [l0] (st) (N, L, up M 82 9 (vI z1)) Q := w_putf (ci := 9) (by rfl) (by rfl) (by decide) hN (by rfl) (q_fit_int rfl _)
theorem s108_84  : WP d 108 84 [.ref 82] (st) X Q = WP d 108 85 [.ref 82] (.ref 82 :: st) X Q := w_aload_n (by rfl) rfl (by decide)
theorem s108_85 {l0 : Value}  : WP d 108 85 [l0] (st) X Q = WP d 108 86 [l0] (vI (0) :: st) X Q := w_iconst (by rfl)
theorem s108_86 {l0 : Value} {z1 : Int} (hN : 82 < N) : WP d 108 86 [l0] (vI z1 :: .ref 82 :: st) (N, L, M) Q = WP d 108 89 [l0] (st) (N, L, up M 82 10 (vI z1)) Q := w_putf (ci := 9) (by rfl) (by rfl) (by decide) hN (by rfl) (q_fit_int rfl _)
theorem s108_89  : WP d 108 89 [.ref 82] (st) X Q = WP d 108 90 [.ref 82] (.ref 82 :: st) X Q := w_aload_n (by rfl) rfl (by decide)
theorem s108_90 {l0 : Value}  : WP d 108 90 [l0] (st) X Q = WP d 108 91 [l0] (vI (0) :: st) X Q := w_iconst (by rfl)
theorem s108_91 {l0 : Value} {z1 : Int} (hN : 82 < N) : WP d 108 91 [l0] (vI z1 :: .ref 82 :: st) (N, L, M) Q = WP d 108 94 [l0] (st) (N, L, up M 82 11 (vI z1)) Q := w_putf (ci := 9) (by rfl) (by rfl) (by decide) hN (by rfl) (q_fit_int rfl _)
theorem s108_94  : WP d 108 94 [.ref 82] (st) X Q = WP d 108 95 [.ref 82] (.ref 82 :: st) X Q := w_aload_n (by rfl) rfl (by decide)
theorem s108_95 {l0 : Value}  : WP d 108 95 [l0] (st) X Q = WP d 108 96 [l0] (vI (0) :: st) X Q := w_iconst (by rfl)
theorem s108_96 {l0 : Value} {z1 : Int} (hN : 82 < N) : WP d 108 96 [l0] (vI z1 :: .ref 82 :: st) (N, L, M) Q = WP d 108 99 [l0] (st) (N, L, up M 82 12 (vI z1)) Q := w_putf (ci := 9) (by rfl) (by rfl) (by decide) hN (by rfl) (q_fit_int rfl _)
theorem s108_99  : WP d 108 99 [.ref 82] (st) X Q = WP d 108 100 [.ref 82] (.ref 82 :: st) X Q := w_aload_n (by rfl) rfl (by decide)
theorem s108_100 {l0 : Value}  : WP d 108 100 [l0] (st) X Q = WP d 108 102 [l0] (vI (100) :: st) X Q := w_bipush (by rfl) (by decide)
theorem s108_102 {l0 : Value} {z1 : Int} (hz : 0 ≤ z1 ∧ z1 < 100000) (hN : N < 1000) (hs : q_sh N = (16, z1.toNat)) : WP d 108 102 [l0] (vI z1 :: st) (N, L, M) Q = WP d 108 104 [l0] (.ref N :: st) (N + 1, L, mk M N (fun _ => vI 0)) Q := w_newa (by rfl) (k := 16) rfl (by decide) hN hz hs
theorem s108_104 {l0 : Value} {b1 : Nat} (hN : 82 < N) (hb : b1 ≠ 1004) : WP d 108 104 [l0] (.ref b1 :: .ref 82 :: st) (N, L, M) Q = WP d 108 107 [l0] (st) (N, L, up M 82 13 (.ref b1)) Q := w_putf (ci := 9) (by rfl) (by rfl) (by decide) hN (by rfl) (q_fit_ref rfl hb)
theorem s108_107  : WP d 108 107 [.ref 82] (st) X Q = WP d 108 108 [.ref 82] (.ref 82 :: st) X Q := w_aload_n (by rfl) rfl (by decide)
theorem s108_108 {l0 : Value}  : WP d 108 108 [l0] (st) X Q = WP d 108 110 [l0] (vI (6) :: st) X Q := w_bipush (by rfl) (by decide)
theorem s108_110 {l0 : Value} {z1 : Int} (hz : 0 ≤ z1 ∧ z1 < 100000) (hN : N < 1000) (hs : q_sh N = (16, z1.toNat)) : WP d 108 110 [l0] (vI z1 :: st) (N, L, M) Q = WP d 108 112 [l0] (.ref N :: st) (N + 1, L, mk M N (fun _ => vI 0)) Q := w_newa (by rfl) (k := 16) rfl (by decide) hN hz hs
theorem s108_112 {l0 : Value} {b1 : Nat} (hN : 82 < N) (hb : b1 ≠ 1004) : WP d 108 112 [l0] (.ref b1 :: .ref 82 :: st) (N, L, M) Q = WP d 108 115 [l0] (st) (N, L, up M 82 14 (.ref b1)) Q := w_putf (ci := 9) (by rfl) (by rfl) (by decide) hN (by rfl) (q_fit_ref rfl hb)
theorem s108_115  : WP d 108 115 [.ref 82] (st) X Q = WP d 108 116 [.ref 82] (.ref 82 :: st) X Q := w_aload_n (by rfl) rfl (by decide)
theorem s108_116 {l0 : Value}  : WP d 108 116 [l0] (st) X Q = WP d 108 118 [l0] (vI (60) :: st) X Q := w_bipush (by rfl) (by decide)
theorem s108_118 {l0 : Value} {z1 : Int} (hz : 0 ≤ z1 ∧ z1 < 100000) (hN : N < 1000) (hs : q_sh N = (16, z1.toNat)) : WP d 108 118 [l0] (vI z1 :: st) (N, L, M) Q = WP d 108 120 [l0] (.ref N :: st) (N + 1, L, mk M N (fun _ => vI 0)) Q := w_newa (by rfl) (k := 16) rfl (by decide) hN hz hs
theorem s108_120 {l0 : Value} {b1 : Nat} (hN : 82 < N) (hb : b1 ≠ 1004) : WP d 108 120 [l0] (.ref b1 :: .ref 82 :: st) (N, L, M) Q = WP d 108 123 [l0] (st) (N, L, up M 82 15 (.ref b1)) Q := w_putf (ci := 9) (by rfl) (by rfl) (by decide) hN (by rfl) (q_fit_ref rfl hb)
theorem s108_123  : WP d 108 123 [.ref 82] (st) X Q = WP d 108 124 [.ref 82] (.ref 82 :: st) X Q := w_aload_n (by rfl) rfl (by decide)
theorem s108_124 {l0 : Value}  : WP d 108 124 [l0] (st) X Q = WP d 108 126 [l0] (vI (60) :: st) X Q := w_bipush (by rfl) (by decide)
theorem s108_126 {l0 : Value} {z1 : Int} (hz : 0 ≤ z1 ∧ z1 < 100000) (hN : N < 1000) (hs : q_sh N = (16, z1.toNat)) : WP d 108 126 [l0] (vI z1 :: st) (N, L, M) Q = WP d 108 128 [l0] (.ref N :: st) (N + 1, L, mk M N (fun _ => vI 0)) Q := w_newa (by rfl) (k := 16) rfl (by decide) hN hz hs
theorem s108_128 {l0 : Value} {b1 : Nat} (hN : 82 < N) (hb : b1 ≠ 1004) : WP d 108 128 [l0] (.ref b1 :: .ref 82 :: st) (N, L, M) Q = WP d 108 131 [l0] (st) (N, L, up M 82 16 (.ref b1)) Q := w_putf (ci := 9) (by rfl) (by rfl) (by decide) hN (by rfl) (q_fit_ref rfl hb)
theorem s108_131  : WP d 108 131 [.ref 82] (st) X Q = WP d 108 132 [.ref 82] (.ref 82 :: st) X Q := w_aload_n (by rfl) rfl (by decide)
theorem s108_132 {l0 : Value}  : WP d 108 132 [l0] (st) X Q = WP d 108 134 [l0] (vI (60) :: st) X Q := w_bipush (by rfl) (by decide)
theorem s108_134 {l0 : Value} {z1 : Int} (hz : 0 ≤ z1 ∧ z1 < 100000) (hN : N < 1000) (hs : q_sh N = (16, z1.toNat)) : WP d 108 134 [l0] (vI z1 :: st) (N, L, M) Q = WP d 108 136 [l0] (.ref N :: st) (N + 1, L, mk M N (fun _ => vI 0)) Q := w_newa (by rfl) (k := 16) rfl (by decide) hN hz hs
theorem s108_136 {l0 : Value} {b1 : Nat} (hN : 82 < N) (hb : b1 ≠ 1004) : WP d 108 136 [l0] (.ref b1 :: .ref 82 :: st) (N, L, M) Q = WP d 108 139 [l0] (st) (N, L, up M 82 17 (.ref b1)) Q := w_putf (ci := 9) (by rfl) (by rfl) (by decide) hN (by rfl) (q_fit_ref rfl hb)
theorem s108_139  : WP d 108 139 [.ref 82] (st) X Q = WP d 108 140 [.ref 82] (.ref 82 :: st) X Q := w_aload_n (by rfl) rfl (by decide)
theorem s108_140 {l0 : Value}  : WP d 108 140 [l0] (st) X Q = WP d 108 142 [l0] (vI (60) :: st) X Q := w_bipush (by rfl) (by decide)
theorem s108_142 {l0 : Value} {z1 : Int} (hz : 0 ≤ z1 ∧ z1 < 100000) (hN : N < 1000) (hs : q_sh N = (16, z1.toNat)) : WP d 108 142 [l0] (vI z1 :: st) (N, L, M) Q = WP d 108 144 [l0] (.ref N :: st) (N + 1, L, mk M N (fun _ => vI 0)) Q := w_newa (by rfl) (k := 16) rfl (by decide) hN hz hs
theorem s108_144 {l0 : Value} {b1 : Nat} (hN : 82 < N) (hb : b1 ≠ 1004) : WP d 108 144 [l0] (.ref b1 :: .ref 82 :: st) (N, L, M) Q = WP d 108 147 [l0] (st) (N, L, up M 82 18 (.ref b1)) Q := w_putf (ci := 9) (by rfl) (by rfl) (by decide) hN (by rfl) (q_fit_ref rfl hb)
theorem s108_147  : WP d 108 147 [.ref 82] (st) X Q = WP d 108 148 [.ref 82] (.ref 82 :: st) X Q := w_aload_n (by rfl) rfl (by decide)
theorem s108_148 {l0 : Value}  : WP d 108 148 [l0] (st) X Q = WP d 108 151 [l0] (vI (600) :: st) X Q := w_sipush (by rfl) (by decide)
theorem s108_151 {l0 : Value} {z1 : Int} (hz : 0 ≤ z1 ∧ z1 < 100000) (hN : N < 1000) (hs : q_sh N = (16, z1.toNat)) : WP d 108 151 [l0] (vI z1 :: st) (N, L, M) Q = WP d 108 153 [l0] (.ref N :: st) (N + 1, L, mk M N (fun _ => vI 0)) Q := w_newa (by rfl) (k := 16) rfl (by decide) hN hz hs
theorem s108_153 {l0 : Value} {b1 : Nat} (hN : 82 < N) (hb : b1 ≠ 1004) : WP d 108 153 [l0] (.ref b1 :: .ref 82 :: st) (N, L, M) Q = WP d 108 156 [l0] (st) (N, L, up M 82 19 (.ref b1)) Q := w_putf (ci := 9) (by rfl) (by rfl) (by decide) hN (by rfl) (q_fit_ref rfl hb)
theorem s108_156  : WP d 108 156 [.ref 82] (st) X Q = WP d 108 157 [.ref 82] (.ref 82 :: st) X Q := w_aload_n (by rfl) rfl (by decide)
theorem s108_157 {l0 : Value}  : WP d 108 157 [l0] (st) X Q = WP d 108 159 [l0] (vI (101) :: st) X Q := w_bipush (by rfl) (by decide)
theorem s108_159 {l0 : Value} {z1 : Int} (hz : 0 ≤ z1 ∧ z1 < 100000) (hN : N < 1000) (hs : q_sh N = (16, z1.toNat)) : WP d 108 159 [l0] (vI z1 :: st) (N, L, M) Q = WP d 108 161 [l0] (.ref N :: st) (N + 1, L, mk M N (fun _ => vI 0)) Q := w_newa (by rfl) (k := 16) rfl (by decide) hN hz hs
theorem s108_161 {l0 : Value} {b1 : Nat} (hN : 82 < N) (hb : b1 ≠ 1004) : WP d 108 161 [l0] (.ref b1 :: .ref 82 :: st) (N, L, M) Q = WP d 108 164 [l0] (st) (N, L, up M 82 20 (.ref b1)) Q := w_putf (ci := 9) (by rfl) (by rfl) (by decide) hN (by rfl) (q_fit_ref rfl hb)
theorem s108_164  : WP d 108 164 [.ref 82] (st) X Q = WP d 108 165 [.ref 82] (.ref 82 :: st) X Q := w_aload_n (by rfl) rfl (by decide)
theorem s108_165 {l0 : Value}  : WP d 108 165 [l0] (st) X Q = WP d 108 166 [l0] (vI (0) :: st) X Q := w_iconst (by rfl)
theorem s108_166 {l0 : Value} {z1 : Int} (hN : 82 < N) : WP d 108 166 [l0] (vI z1 :: .ref 82 :: st) (N, L, M) Q = WP d 108 169 [l0] (st) (N, L, up M 82 21 (vI z1)) Q := w_putf (ci := 9) (by rfl) (by rfl) (by decide) hN (by rfl) (q_fit_int rfl _)
theorem s108_169  : WP d 108 169 [.ref 82] (st) X Q = WP d 108 170 [.ref 82] (.ref 82 :: st) X Q := w_aload_n (by rfl) rfl (by decide)
theorem s108_170 {l0 : Value}  : WP d 108 170 [l0] (st) X Q = WP d 108 171 [l0] (vI (0) :: st) X Q := w_iconst (by rfl)
theorem s108_171 {l0 : Value} {z1 : Int} (hN : 82 < N) : WP d 108 171 [l0] (vI z1 :: .ref 82 :: st) (N, L, M) Q = WP d 108 174 [l0] (st) (N, L, up M 82 22 (vI z1)) Q := w_putf (ci := 9) (by rfl) (by rfl) (by decide) hN (by rfl) (q_fit_int rfl _)
theorem s108_174  : WP d 108 174 [.ref 82] (st) X Q = WP d 108 175 [.ref 82] (.ref 82 :: st) X Q := w_aload_n (by rfl) rfl (by decide)
theorem s108_175 {l0 : Value}  : WP d 108 175 [l0] (st) X Q = WP d 108 176 [l0] (vI (0) :: st) X Q := w_iconst (by rfl)
theorem s108_176 {l0 : Value} {z1 : Int} (hN : 82 < N) : WP d 108 176 [l0] (vI z1 :: .ref 82 :: st) (N, L, M) Q = WP d 108 179 [l0] (st) (N, L, up M 82 23 (vI z1)) Q := w_putf (ci := 9) (by rfl) (by rfl) (by decide) hN (by rfl) (q_fit_int rfl _)
theorem s108_179  : WP d 108 179 [.ref 82] (st) X Q = WP d 108 180 [.ref 82] (.ref 82 :: st) X Q := w_aload_n (by rfl) rfl (by decide)
theorem s108_180 {l0 : Value}  : WP d 108 180 [l0] (st) X Q = WP d 108 182 [l0] (vI (20) :: st) X Q := w_bipush (by rfl) (by decide)
theorem s108_182 {l0 : Value} {z1 : Int} (hz : 0 ≤ z1 ∧ z1 < 100000) (hN : N < 1000) (hs : q_sh N = (16, z1.toNat)) : WP d 108 182 [l0] (vI z1 :: st) (N, L, M) Q = WP d 108 184 [l0] (.ref N :: st) (N + 1, L, mk M N (fun _ => vI 0)) Q := w_newa (by rfl) (k := 16) rfl (by decide) hN hz hs
theorem s108_184 {l0 : Value} {a1 : Nat} : WP d 108 184 [l0] (.ref a1 :: st) X Q = WP d 108 185 [l0] (.ref a1 :: .ref a1 :: st) X Q := w_dup (by rfl) rfl
theorem s108_185 {l0 : Value}  : WP d 108 185 [l0] (st) X Q = WP d 108 186 [l0] (vI (0) :: st) X Q := w_iconst (by rfl)
theorem s108_186 {l0 : Value}  : WP d 108 186 [l0] (st) X Q = WP d 108 188 [l0] (vI (108) :: st) X Q := w_bipush (by rfl) (by decide)
theorem s108_188 {l0 : Value} {j1 : Int} {z2 : Int} (hj : 0 ≤ j1 ∧ j1 < 20) (hN : 96 < N) : WP d 108 188 [l0] (vI z2 :: vI j1 :: .ref 96 :: st) (N, L, M) Q = WP d 108 189 [l0] (st) (N, L, up M 96 j1.toNat (vI z2)) Q := w_iast (by rfl) (m := 20) (by rfl) hN hj (by decide)
theorem s108_189 {l0 : Value} {a1 : Nat} : WP d 108 189 [l0] (.ref a1 :: st) X Q = WP d 108 190 [l0] (.ref a1 :: .ref a1 :: st) X Q := w_dup (by rfl) rfl
theorem s108_190 {l0 : Value}  : WP d 108 190 [l0] (st) X Q = WP d 108 191 [l0] (vI (1) :: st) X Q := w_iconst (by rfl)
theorem s108_191 {l0 : Value}  : WP d 108 191 [l0] (st) X Q = WP d 108 193 [l0] (vI (105) :: st) X Q := w_bipush (by rfl) (by decide)
theorem s108_193 {l0 : Value} {j1 : Int} {z2 : Int} (hj : 0 ≤ j1 ∧ j1 < 20) (hN : 96 < N) : WP d 108 193 [l0] (vI z2 :: vI j1 :: .ref 96 :: st) (N, L, M) Q = WP d 108 194 [l0] (st) (N, L, up M 96 j1.toNat (vI z2)) Q := w_iast (by rfl) (m := 20) (by rfl) hN hj (by decide)
theorem s108_194 {l0 : Value} {a1 : Nat} : WP d 108 194 [l0] (.ref a1 :: st) X Q = WP d 108 195 [l0] (.ref a1 :: .ref a1 :: st) X Q := w_dup (by rfl) rfl
theorem s108_195 {l0 : Value}  : WP d 108 195 [l0] (st) X Q = WP d 108 196 [l0] (vI (2) :: st) X Q := w_iconst (by rfl)
theorem s108_196 {l0 : Value}  : WP d 108 196 [l0] (st) X Q = WP d 108 198 [l0] (vI (107) :: st) X Q := w_bipush (by rfl) (by decide)
theorem s108_198 {l0 : Value} {j1 : Int} {z2 : Int} (hj : 0 ≤ j1 ∧ j1 < 20) (hN : 96 < N) : WP d 108 198 [l0] (vI z2 :: vI j1 :: .ref 96 :: st) (N, L, M) Q = WP d 108 199 [l0] (st) (N, L, up M 96 j1.toNat (vI z2)) Q := w_iast (by rfl) (m := 20) (by rfl) hN hj (by decide)
theorem s108_199 {l0 : Value} {a1 : Nat} : WP d 108 199 [l0] (.ref a1 :: st) X Q = WP d 108 200 [l0] (.ref a1 :: .ref a1 :: st) X Q := w_dup (by rfl) rfl
theorem s108_200 {l0 : Value}  : WP d 108 200 [l0] (st) X Q = WP d 108 201 [l0] (vI (3) :: st) X Q := w_iconst (by rfl)
theorem s108_201 {l0 : Value}  : WP d 108 201 [l0] (st) X Q = WP d 108 203 [l0] (vI (101) :: st) X Q := w_bipush (by rfl) (by decide)
theorem s108_203 {l0 : Value} {j1 : Int} {z2 : Int} (hj : 0 ≤ j1 ∧ j1 < 20) (hN : 96 < N) : WP d 108 203 [l0] (vI z2 :: vI j1 :: .ref 96 :: st) (N, L, M) Q = WP d 108 204 [l0] (st) (N, L, up M 96 j1.toNat (vI z2)) Q := w_iast (by rfl) (m := 20) (by rfl) hN hj (by decide)
theorem s108_204 {l0 : Value} {a1 : Nat} : WP d 108 204 [l0] (.ref a1 :: st) X Q = WP d 108 205 [l0] (.ref a1 :: .ref a1 :: st) X Q := w_dup (by rfl) rfl
theorem s108_205 {l0 : Value}  : WP d 108 205 [l0] (st) X Q = WP d 108 206 [l0] (vI (4) :: st) X Q := w_iconst (by rfl)
theorem s108_206 {l0 : Value}  : WP d 108 206 [l0] (st) X Q = WP d 108 208 [l0] (vI (115) :: st) X Q := w_bipush (by rfl) (by decide)
theorem s108_208 {l0 : Value} {j1 : Int} {z2 : Int} (hj : 0 ≤ j1 ∧ j1 < 20) (hN : 96 < N) : WP d 108 208 [l0] (vI z2 :: vI j1 :: .ref 96 :: st) (N, L, M) Q = WP d 108 209 [l0] (st) (N, L, up M 96 j1.toNat (vI z2)) Q := w_iast (by rfl) (m := 20) (by rfl) hN hj (by decide)
theorem s108_209 {l0 : Value} {a1 : Nat} : WP d 108 209 [l0] (.ref a1 :: st) X Q = WP d 108 210 [l0] (.ref a1 :: .ref a1 :: st) X Q := w_dup (by rfl) rfl
theorem s108_210 {l0 : Value}  : WP d 108 210 [l0] (st) X Q = WP d 108 211 [l0] (vI (5) :: st) X Q := w_iconst (by rfl)
theorem s108_211 {l0 : Value}  : WP d 108 211 [l0] (st) X Q = WP d 108 213 [l0] (vI (108) :: st) X Q := w_bipush (by rfl) (by decide)
theorem s108_213 {l0 : Value} {j1 : Int} {z2 : Int} (hj : 0 ≤ j1 ∧ j1 < 20) (hN : 96 < N) : WP d 108 213 [l0] (vI z2 :: vI j1 :: .ref 96 :: st) (N, L, M) Q = WP d 108 214 [l0] (st) (N, L, up M 96 j1.toNat (vI z2)) Q := w_iast (by rfl) (m := 20) (by rfl) hN hj (by decide)
theorem s108_214 {l0 : Value} {a1 : Nat} : WP d 108 214 [l0] (.ref a1 :: st) X Q = WP d 108 215 [l0] (.ref a1 :: .ref a1 :: st) X Q := w_dup (by rfl) rfl
theorem s108_215 {l0 : Value}  : WP d 108 215 [l0] (st) X Q = WP d 108 217 [l0] (vI (6) :: st) X Q := w_bipush (by rfl) (by decide)
theorem s108_217 {l0 : Value}  : WP d 108 217 [l0] (st) X Q = WP d 108 219 [l0] (vI (111) :: st) X Q := w_bipush (by rfl) (by decide)
theorem s108_219 {l0 : Value} {j1 : Int} {z2 : Int} (hj : 0 ≤ j1 ∧ j1 < 20) (hN : 96 < N) : WP d 108 219 [l0] (vI z2 :: vI j1 :: .ref 96 :: st) (N, L, M) Q = WP d 108 220 [l0] (st) (N, L, up M 96 j1.toNat (vI z2)) Q := w_iast (by rfl) (m := 20) (by rfl) hN hj (by decide)
theorem s108_220 {l0 : Value} {a1 : Nat} : WP d 108 220 [l0] (.ref a1 :: st) X Q = WP d 108 221 [l0] (.ref a1 :: .ref a1 :: st) X Q := w_dup (by rfl) rfl
theorem s108_221 {l0 : Value}  : WP d 108 221 [l0] (st) X Q = WP d 108 223 [l0] (vI (7) :: st) X Q := w_bipush (by rfl) (by decide)
theorem s108_223 {l0 : Value}  : WP d 108 223 [l0] (st) X Q = WP d 108 225 [l0] (vI (97) :: st) X Q := w_bipush (by rfl) (by decide)
theorem s108_225 {l0 : Value} {j1 : Int} {z2 : Int} (hj : 0 ≤ j1 ∧ j1 < 20) (hN : 96 < N) : WP d 108 225 [l0] (vI z2 :: vI j1 :: .ref 96 :: st) (N, L, M) Q = WP d 108 226 [l0] (st) (N, L, up M 96 j1.toNat (vI z2)) Q := w_iast (by rfl) (m := 20) (by rfl) hN hj (by decide)
theorem s108_226 {l0 : Value} {a1 : Nat} : WP d 108 226 [l0] (.ref a1 :: st) X Q = WP d 108 227 [l0] (.ref a1 :: .ref a1 :: st) X Q := w_dup (by rfl) rfl
theorem s108_227 {l0 : Value}  : WP d 108 227 [l0] (st) X Q = WP d 108 229 [l0] (vI (8) :: st) X Q := w_bipush (by rfl) (by decide)
theorem s108_229 {l0 : Value}  : WP d 108 229 [l0] (st) X Q = WP d 108 231 [l0] (vI (116) :: st) X Q := w_bipush (by rfl) (by decide)
theorem s108_231 {l0 : Value} {j1 : Int} {z2 : Int} (hj : 0 ≤ j1 ∧ j1 < 20) (hN : 96 < N) : WP d 108 231 [l0] (vI z2 :: vI j1 :: .ref 96 :: st) (N, L, M) Q = WP d 108 232 [l0] (st) (N, L, up M 96 j1.toNat (vI z2)) Q := w_iast (by rfl) (m := 20) (by rfl) hN hj (by decide)
theorem s108_232 {l0 : Value} {a1 : Nat} : WP d 108 232 [l0] (.ref a1 :: st) X Q = WP d 108 233 [l0] (.ref a1 :: .ref a1 :: st) X Q := w_dup (by rfl) rfl
theorem s108_233 {l0 : Value}  : WP d 108 233 [l0] (st) X Q = WP d 108 235 [l0] (vI (9) :: st) X Q := w_bipush (by rfl) (by decide)
theorem s108_235 {l0 : Value}  : WP d 108 235 [l0] (st) X Q = WP d 108 237 [l0] (vI (104) :: st) X Q := w_bipush (by rfl) (by decide)
theorem s108_237 {l0 : Value} {j1 : Int} {z2 : Int} (hj : 0 ≤ j1 ∧ j1 < 20) (hN : 96 < N) : WP d 108 237 [l0] (vI z2 :: vI j1 :: .ref 96 :: st) (N, L, M) Q = WP d 108 238 [l0] (st) (N, L, up M 96 j1.toNat (vI z2)) Q := w_iast (by rfl) (m := 20) (by rfl) hN hj (by decide)
theorem s108_238 {l0 : Value} {a1 : Nat} : WP d 108 238 [l0] (.ref a1 :: st) X Q = WP d 108 239 [l0] (.ref a1 :: .ref a1 :: st) X Q := w_dup (by rfl) rfl
theorem s108_239 {l0 : Value}  : WP d 108 239 [l0] (st) X Q = WP d 108 241 [l0] (vI (10) :: st) X Q := w_bipush (by rfl) (by decide)
theorem s108_241 {l0 : Value}  : WP d 108 241 [l0] (st) X Q = WP d 108 243 [l0] (vI (101) :: st) X Q := w_bipush (by rfl) (by decide)
theorem s108_243 {l0 : Value} {j1 : Int} {z2 : Int} (hj : 0 ≤ j1 ∧ j1 < 20) (hN : 96 < N) : WP d 108 243 [l0] (vI z2 :: vI j1 :: .ref 96 :: st) (N, L, M) Q = WP d 108 244 [l0] (st) (N, L, up M 96 j1.toNat (vI z2)) Q := w_iast (by rfl) (m := 20) (by rfl) hN hj (by decide)
theorem s108_244 {l0 : Value} {a1 : Nat} : WP d 108 244 [l0] (.ref a1 :: st) X Q = WP d 108 245 [l0] (.ref a1 :: .ref a1 :: st) X Q := w_dup (by rfl) rfl
theorem s108_245 {l0 : Value}  : WP d 108 245 [l0] (st) X Q = WP d 108 247 [l0] (vI (11) :: st) X Q := w_bipush (by rfl) (by decide)
theorem s108_247 {l0 : Value}  : WP d 108 247 [l0] (st) X Q = WP d 108 249 [l0] (vI (115) :: st) X Q := w_bipush (by rfl) (by decide)
theorem s108_249 {l0 : Value} {j1 : Int} {z2 : Int} (hj : 0 ≤ j1 ∧ j1 < 20) (hN : 96 < N) : WP d 108 249 [l0] (vI z2 :: vI j1 :: .ref 96 :: st) (N, L, M) Q = WP d 108 250 [l0] (st) (N, L, up M 96 j1.toNat (vI z2)) Q := w_iast (by rfl) (m := 20) (by rfl) hN hj (by decide)
theorem s108_250 {l0 : Value} {a1 : Nat} : WP d 108 250 [l0] (.ref a1 :: st) X Q = WP d 108 251 [l0] (.ref a1 :: .ref a1 :: st) X Q := w_dup (by rfl) rfl
theorem s108_251 {l0 : Value}  : WP d 108 251 [l0] (st) X Q = WP d 108 253 [l0] (vI (12) :: st) X Q := w_bipush (by rfl) (by decide)
theorem s108_253 {l0 : Value}  : WP d 108 253 [l0] (st) X Q = WP d 108 255 [l0] (vI (116) :: st) X Q := w_bipush (by rfl) (by decide)
theorem s108_255 {l0 : Value} {j1 : Int} {z2 : Int} (hj : 0 ≤ j1 ∧ j1 < 20) (hN : 96 < N) : WP d 108 255 [l0] (vI z2 :: vI j1 :: .ref 96 :: st) (N, L, M) Q = WP d 108 256 [l0] (st) (N, L, up M 96 j1.toNat (vI z2)) Q := w_iast (by rfl) (m := 20) (by rfl) hN hj (by decide)
theorem s108_256 {l0 : Value} {a1 : Nat} : WP d 108 256 [l0] (.ref a1 :: st) X Q = WP d 108 257 [l0] (.ref a1 :: .ref a1 :: st) X Q := w_dup (by rfl) rfl
theorem s108_257 {l0 : Value}  : WP d 108 257 [l0] (st) X Q = WP d 108 259 [l0] (vI (13) :: st) X Q := w_bipush (by rfl) (by decide)
theorem s108_259 {l0 : Value}  : WP d 108 259 [l0] (st) X Q = WP d 108 261 [l0] (vI (117) :: st) X Q := w_bipush (by rfl) (by decide)
theorem s108_261 {l0 : Value} {j1 : Int} {z2 : Int} (hj : 0 ≤ j1 ∧ j1 < 20) (hN : 96 < N) : WP d 108 261 [l0] (vI z2 :: vI j1 :: .ref 96 :: st) (N, L, M) Q = WP d 108 262 [l0] (st) (N, L, up M 96 j1.toNat (vI z2)) Q := w_iast (by rfl) (m := 20) (by rfl) hN hj (by decide)
theorem s108_262 {l0 : Value} {a1 : Nat} : WP d 108 262 [l0] (.ref a1 :: st) X Q = WP d 108 263 [l0] (.ref a1 :: .ref a1 :: st) X Q := w_dup (by rfl) rfl
theorem s108_263 {l0 : Value}  : WP d 108 263 [l0] (st) X Q = WP d 108 265 [l0] (vI (14) :: st) X Q := w_bipush (by rfl) (by decide)
theorem s108_265 {l0 : Value}  : WP d 108 265 [l0] (st) X Q = WP d 108 267 [l0] (vI (110) :: st) X Q := w_bipush (by rfl) (by decide)
theorem s108_267 {l0 : Value} {j1 : Int} {z2 : Int} (hj : 0 ≤ j1 ∧ j1 < 20) (hN : 96 < N) : WP d 108 267 [l0] (vI z2 :: vI j1 :: .ref 96 :: st) (N, L, M) Q = WP d 108 268 [l0] (st) (N, L, up M 96 j1.toNat (vI z2)) Q := w_iast (by rfl) (m := 20) (by rfl) hN hj (by decide)
theorem s108_268 {l0 : Value} {a1 : Nat} : WP d 108 268 [l0] (.ref a1 :: st) X Q = WP d 108 269 [l0] (.ref a1 :: .ref a1 :: st) X Q := w_dup (by rfl) rfl
theorem s108_269 {l0 : Value}  : WP d 108 269 [l0] (st) X Q = WP d 108 271 [l0] (vI (15) :: st) X Q := w_bipush (by rfl) (by decide)
theorem s108_271 {l0 : Value}  : WP d 108 271 [l0] (st) X Q = WP d 108 273 [l0] (vI (101) :: st) X Q := w_bipush (by rfl) (by decide)
theorem s108_273 {l0 : Value} {j1 : Int} {z2 : Int} (hj : 0 ≤ j1 ∧ j1 < 20) (hN : 96 < N) : WP d 108 273 [l0] (vI z2 :: vI j1 :: .ref 96 :: st) (N, L, M) Q = WP d 108 274 [l0] (st) (N, L, up M 96 j1.toNat (vI z2)) Q := w_iast (by rfl) (m := 20) (by rfl) hN hj (by decide)
theorem s108_274 {l0 : Value} {a1 : Nat} : WP d 108 274 [l0] (.ref a1 :: st) X Q = WP d 108 275 [l0] (.ref a1 :: .ref a1 :: st) X Q := w_dup (by rfl) rfl
theorem s108_275 {l0 : Value}  : WP d 108 275 [l0] (st) X Q = WP d 108 277 [l0] (vI (16) :: st) X Q := w_bipush (by rfl) (by decide)
theorem s108_277 {l0 : Value}  : WP d 108 277 [l0] (st) X Q = WP d 108 279 [l0] (vI (103) :: st) X Q := w_bipush (by rfl) (by decide)
theorem s108_279 {l0 : Value} {j1 : Int} {z2 : Int} (hj : 0 ≤ j1 ∧ j1 < 20) (hN : 96 < N) : WP d 108 279 [l0] (vI z2 :: vI j1 :: .ref 96 :: st) (N, L, M) Q = WP d 108 280 [l0] (st) (N, L, up M 96 j1.toNat (vI z2)) Q := w_iast (by rfl) (m := 20) (by rfl) hN hj (by decide)
theorem s108_280 {l0 : Value} {a1 : Nat} : WP d 108 280 [l0] (.ref a1 :: st) X Q = WP d 108 281 [l0] (.ref a1 :: .ref a1 :: st) X Q := w_dup (by rfl) rfl
theorem s108_281 {l0 : Value}  : WP d 108 281 [l0] (st) X Q = WP d 108 283 [l0] (vI (17) :: st) X Q := w_bipush (by rfl) (by decide)
theorem s108_283 {l0 : Value}  : WP d 108 283 [l0] (st) X Q = WP d 108 285 [l0] (vI (114) :: st) X Q := w_bipush (by rfl) (by decide)
theorem s108_285 {l0 : Value} {j1 : Int} {z2 : Int} (hj : 0 ≤ j1 ∧ j1 < 20) (hN : 96 < N) : WP d 108 285 [l0] (vI z2 :: vI j1 :: .ref 96 :: st) (N, L, M) Q = WP d 108 286 [l0] (st) (N, L, up M 96 j1.toNat (vI z2)) Q := w_iast (by rfl) (m := 20) (by rfl) hN hj (by decide)
theorem s108_286 {l0 : Value} {a1 : Nat} : WP d 108 286 [l0] (.ref a1 :: st) X Q = WP d 108 287 [l0] (.ref a1 :: .ref a1 :: st) X Q := w_dup (by rfl) rfl
theorem s108_287 {l0 : Value}  : WP d 108 287 [l0] (st) X Q = WP d 108 289 [l0] (vI (18) :: st) X Q := w_bipush (by rfl) (by decide)
theorem s108_289 {l0 : Value}  : WP d 108 289 [l0] (st) X Q = WP d 108 291 [l0] (vI (111) :: st) X Q := w_bipush (by rfl) (by decide)
theorem s108_291 {l0 : Value} {j1 : Int} {z2 : Int} (hj : 0 ≤ j1 ∧ j1 < 20) (hN : 96 < N) : WP d 108 291 [l0] (vI z2 :: vI j1 :: .ref 96 :: st) (N, L, M) Q = WP d 108 292 [l0] (st) (N, L, up M 96 j1.toNat (vI z2)) Q := w_iast (by rfl) (m := 20) (by rfl) hN hj (by decide)
theorem s108_292 {l0 : Value} {a1 : Nat} : WP d 108 292 [l0] (.ref a1 :: st) X Q = WP d 108 293 [l0] (.ref a1 :: .ref a1 :: st) X Q := w_dup (by rfl) rfl
theorem s108_293 {l0 : Value}  : WP d 108 293 [l0] (st) X Q = WP d 108 295 [l0] (vI (19) :: st) X Q := w_bipush (by rfl) (by decide)
theorem s108_295 {l0 : Value}  : WP d 108 295 [l0] (st) X Q = WP d 108 297 [l0] (vI (119) :: st) X Q := w_bipush (by rfl) (by decide)
theorem s108_297 {l0 : Value} {j1 : Int} {z2 : Int} (hj : 0 ≤ j1 ∧ j1 < 20) (hN : 96 < N) : WP d 108 297 [l0] (vI z2 :: vI j1 :: .ref 96 :: st) (N, L, M) Q = WP d 108 298 [l0] (st) (N, L, up M 96 j1.toNat (vI z2)) Q := w_iast (by rfl) (m := 20) (by rfl) hN hj (by decide)
theorem s108_298 {l0 : Value} {b1 : Nat} (hN : 82 < N) (hb : b1 ≠ 1004) : WP d 108 298 [l0] (.ref b1 :: .ref 82 :: st) (N, L, M) Q = WP d 108 301 [l0] (st) (N, L, up M 82 24 (.ref b1)) Q := w_putf (ci := 9) (by rfl) (by rfl) (by decide) hN (by rfl) (q_fit_ref rfl hb)
theorem s108_301  : WP d 108 301 [.ref 82] (st) X Q = WP d 108 302 [.ref 82] (.ref 82 :: st) X Q := w_aload_n (by rfl) rfl (by decide)
theorem s108_302 {l0 : Value}  : WP d 108 302 [l0] (st) X Q = WP d 108 304 [l0] (vI (100) :: st) X Q := w_bipush (by rfl) (by decide)
theorem s108_304 {l0 : Value} {z1 : Int} (hz : 0 ≤ z1 ∧ z1 < 100000) (hN : N < 1000) (hs : q_sh N = (19, z1.toNat)) : WP d 108 304 [l0] (vI z1 :: st) (N, L, M) Q = WP d 108 306 [l0] (.ref N :: st) (N + 1, L, mk M N (fun _ => vI 0)) Q := w_newa (by rfl) (k := 19) rfl (by decide) hN hz hs
theorem s108_306 {l0 : Value} {b1 : Nat} (hN : 82 < N) (hb : b1 ≠ 1004) : WP d 108 306 [l0] (.ref b1 :: .ref 82 :: st) (N, L, M) Q = WP d 108 309 [l0] (st) (N, L, up M 82 25 (.ref b1)) Q := w_putf (ci := 9) (by rfl) (by rfl) (by decide) hN (by rfl) (q_fit_ref rfl hb)
theorem s108_309  : WP d 108 309 [.ref 82] (st) X Q = WP d 108 310 [.ref 82] (.ref 82 :: st) X Q := w_aload_n (by rfl) rfl (by decide)
theorem s108_310 {l0 : Value}  : WP d 108 310 [l0] (st) X Q = WP d 108 312 [l0] (vI (99999) :: st) X Q := w_ldc (m := 0) (by rfl) (z := 99999) (by rfl)
theorem s108_312 {l0 : Value} {z1 : Int} (hN : 82 < N) : WP d 108 312 [l0] (vI z1 :: .ref 82 :: st) (N, L, M) Q = WP d 108 315 [l0] (st) (N, L, up M 82 26 (vI z1)) Q := w_putf (ci := 9) (by rfl) (by rfl) (by decide) hN (by rfl) (q_fit_int rfl _)
theorem s108_315  : WP d 108 315 [.ref 82] (st) X Q = WP d 108 316 [.ref 82] (.ref 82 :: st) X Q := w_aload_n (by rfl) rfl (by decide)
theorem s108_316 {l0 : Value}  : WP d 108 316 [l0] (st) X Q = WP d 108 317 [l0] (vI (0) :: st) X Q := w_iconst (by rfl)
theorem s108_317 {l0 : Value} {z1 : Int} (hN : 82 < N) : WP d 108 317 [l0] (vI z1 :: .ref 82 :: st) (N, L, M) Q = WP d 108 320 [l0] (st) (N, L, up M 82 27 (vI z1)) Q := w_putf (ci := 9) (by rfl) (by rfl) (by decide) hN (by rfl) (q_fit_int rfl _)
theorem s108_320  : WP d 108 320 [.ref 82] (st) X Q = WP d 108 321 [.ref 82] (.ref 82 :: st) X Q := w_aload_n (by rfl) rfl (by decide)
theorem s108_321 {l0 : Value}  : WP d 108 321 [l0] (st) X Q = WP d 108 322 [l0] (vI (0) :: st) X Q := w_iconst (by rfl)
theorem s108_322 {l0 : Value} {z1 : Int} (hN : 82 < N) : WP d 108 322 [l0] (vI z1 :: .ref 82 :: st) (N, L, M) Q = WP d 108 325 [l0] (st) (N, L, up M 82 28 (vI z1)) Q := w_putf (ci := 9) (by rfl) (by rfl) (by decide) hN (by rfl) (q_fit_int rfl _)
theorem s108_325  : WP d 108 325 [.ref 82] (st) X Q = WP d 108 326 [.ref 82] (.ref 82 :: st) X Q := w_aload_n (by rfl) rfl (by decide)
theorem s108_326 {l0 : Value}  : WP d 108 326 [l0] (st) X Q = WP d 108 328 [l0] (vI (6) :: st) X Q := w_bipush (by rfl) (by decide)
theorem s108_328 {l0 : Value} {z1 : Int} (hz : 0 ≤ z1 ∧ z1 < 100000) (hN : N < 1000) (hs : q_sh N = (16, z1.toNat)) : WP d 108 328 [l0] (vI z1 :: st) (N, L, M) Q = WP d 108 330 [l0] (.ref N :: st) (N + 1, L, mk M N (fun _ => vI 0)) Q := w_newa (by rfl) (k := 16) rfl (by decide) hN hz hs
theorem s108_330 {l0 : Value} {b1 : Nat} (hN : 82 < N) (hb : b1 ≠ 1004) : WP d 108 330 [l0] (.ref b1 :: .ref 82 :: st) (N, L, M) Q = WP d 108 333 [l0] (st) (N, L, up M 82 29 (.ref b1)) Q := w_putf (ci := 9) (by rfl) (by rfl) (by decide) hN (by rfl) (q_fit_ref rfl hb)
theorem s108_333  : WP d 108 333 [.ref 82] (st) X Q = WP d 108 334 [.ref 82] (.ref 82 :: st) X Q := w_aload_n (by rfl) rfl (by decide)
theorem s108_334 {l0 : Value}  : WP d 108 334 [l0] (st) X Q = WP d 108 335 [l0] (vI (4) :: st) X Q := w_iconst (by rfl)
theorem s108_335 {l0 : Value} {z1 : Int} (hz : 0 ≤ z1 ∧ z1 < 100000) (hN : N < 1000) (hs : q_sh N = (16, z1.toNat)) : WP d 108 335 [l0] (vI z1 :: st) (N, L, M) Q = WP d 108 337 [l0] (.ref N :: st) (N + 1, L, mk M N (fun _ => vI 0)) Q := w_newa (by rfl) (k := 16) rfl (by decide) hN hz hs
theorem s108_337 {l0 : Value} {b1 : Nat} (hN : 82 < N) (hb : b1 ≠ 1004) : WP d 108 337 [l0] (.ref b1 :: .ref 82 :: st) (N, L, M) Q = WP d 108 340 [l0] (st) (N, L, up M 82 30 (.ref b1)) Q := w_putf (ci := 9) (by rfl) (by rfl) (by decide) hN (by rfl) (q_fit_ref rfl hb)
theorem s108_340  : WP d 108 340 [.ref 82] (st) X Q = WP d 108 341 [.ref 82] (.ref 82 :: st) X Q := w_aload_n (by rfl) rfl (by decide)
theorem s108_341 {l0 : Value}  : WP d 108 341 [l0] (st) X Q = WP d 108 342 [l0] (vI (4) :: st) X Q := w_iconst (by rfl)
theorem s108_342 {l0 : Value} {z1 : Int} (hz : 0 ≤ z1 ∧ z1 < 100000) (hN : N < 1000) (hs : q_sh N = (16, z1.toNat)) : WP d 108 342 [l0] (vI z1 :: st) (N, L, M) Q = WP d 108 344 [l0] (.ref N :: st) (N + 1, L, mk M N (fun _ => vI 0)) Q := w_newa (by rfl) (k := 16) rfl (by decide) hN hz hs
theorem s108_344 {l0 : Value} {b1 : Nat} (hN : 82 < N) (hb : b1 ≠ 1004) : WP d 108 344 [l0] (.ref b1 :: .ref 82 :: st) (N, L, M) Q = WP d 108 347 [l0] (st) (N, L, up M 82 31 (.ref b1)) Q := w_putf (ci := 9) (by rfl) (by rfl) (by decide) hN (by rfl) (q_fit_ref rfl hb)
theorem s108_347  : WP d 108 347 [.ref 82] (st) X Q = WP d 108 348 [.ref 82] (.ref 82 :: st) X Q := w_aload_n (by rfl) rfl (by decide)
theorem s108_348 {l0 : Value}  : WP d 108 348 [l0] (st) X Q = WP d 108 350 [l0] (vI (6) :: st) X Q := w_bipush (by rfl) (by decide)
theorem s108_350 {l0 : Value} {z1 : Int} (hz : 0 ≤ z1 ∧ z1 < 100000) (hN : N < 1000) (hs : q_sh N = (16, z1.toNat)) : WP d 108 350 [l0] (vI z1 :: st) (N, L, M) Q = WP d 108 352 [l0] (.ref N :: st) (N + 1, L, mk M N (fun _ => vI 0)) Q := w_newa (by rfl) (k := 16) rfl (by decide) hN hz hs
theorem s108_352 {l0 : Value} {b1 : Nat} (hN : 82 < N) (hb : b1 ≠ 1004) : WP d 108 352 [l0] (.ref b1 :: .ref 82 :: st) (N, L, M) Q = WP d 108 355 [l0] (st) (N, L, up M 82 32 (.ref b1)) Q := w_putf (ci := 9) (by rfl) (by rfl) (by decide) hN (by rfl) (q_fit_ref rfl hb)
theorem s108_355  : WP d 108 355 [.ref 82] (st) X Q = WP d 108 356 [.ref 82] (.ref 82 :: st) X Q := w_aload_n (by rfl) rfl (by decide)
theorem s108_356 {l0 : Value}  : WP d 108 356 [l0] (st) X Q = WP d 108 358 [l0] (vI (6) :: st) X Q := w_bipush (by rfl) (by decide)
theorem s108_358 {l0 : Value} {z1 : Int} (hz : 0 ≤ z1 ∧ z1 < 100000) (hN : N < 1000) (hs : q_sh N = (16, z1.toNat)) : WP d 108 358 [l0] (vI z1 :: st) (N, L, M) Q = WP d 108 360 [l0] (.ref N :: st) (N + 1, L, mk M N (fun _ => vI 0)) Q := w_newa (by rfl) (k := 16) rfl (by decide) hN hz hs
theorem s108_360 {l0 : Value} {b1 : Nat} (hN : 82 < N) (hb : b1 ≠ 1004) : WP d 108 360 [l0] (.ref b1 :: .ref 82 :: st) (N, L, M) Q = WP d 108 363 [l0] (st) (N, L, up M 82 33 (.ref b1)) Q := w_putf (ci := 9) (by rfl) (by rfl) (by decide) hN (by rfl) (q_fit_ref rfl hb)
theorem s108_363  : WP d 108 363 [.ref 82] (st) X Q = WP d 108 364 [.ref 82] (.ref 82 :: st) X Q := w_aload_n (by rfl) rfl (by decide)
theorem s108_364 {l0 : Value}  : WP d 108 364 [l0] (st) X Q = WP d 108 365 [l0] (vI (0) :: st) X Q := w_iconst (by rfl)
theorem s108_365 {l0 : Value} {z1 : Int} (hN : 82 < N) : WP d 108 365 [l0] (vI z1 :: .ref 82 :: st) (N, L, M) Q = WP d 108 368 [l0] (st) (N, L, up M 82 34 (vI z1)) Q := w_putf (ci := 9) (by rfl) (by rfl) (by decide) hN (by rfl) (q_fit_int rfl _)
theorem s108_368  : WP d 108 368 [.ref 82] (st) X Q = WP d 108 369 [.ref 82] (.ref 82 :: st) X Q := w_aload_n (by rfl) rfl (by decide)
theorem s108_369 {l0 : Value}  : WP d 108 369 [l0] (st) X Q = WP d 108 371 [l0] (vI (10) :: st) X Q := w_bipush (by rfl) (by decide)
theorem s108_371 {l0 : Value} {z1 : Int} (hz : 0 ≤ z1 ∧ z1 < 100000) (hN : N < 1000) (hs : q_sh N = (16, z1.toNat)) : WP d 108 371 [l0] (vI z1 :: st) (N, L, M) Q = WP d 108 373 [l0] (.ref N :: st) (N + 1, L, mk M N (fun _ => vI 0)) Q := w_newa (by rfl) (k := 16) rfl (by decide) hN hz hs
theorem s108_373 {l0 : Value} {b1 : Nat} (hN : 82 < N) (hb : b1 ≠ 1004) : WP d 108 373 [l0] (.ref b1 :: .ref 82 :: st) (N, L, M) Q = WP d 108 376 [l0] (st) (N, L, up M 82 35 (.ref b1)) Q := w_putf (ci := 9) (by rfl) (by rfl) (by decide) hN (by rfl) (q_fit_ref rfl hb)
theorem s108_376  : WP d 108 376 [.ref 82] (st) X Q = WP d 108 377 [.ref 82] (.ref 82 :: st) X Q := w_aload_n (by rfl) rfl (by decide)
theorem s108_377 {l0 : Value}  : WP d 108 377 [l0] (st) X Q = WP d 108 378 [l0] (vI (0) :: st) X Q := w_iconst (by rfl)
theorem s108_378 {l0 : Value} {z1 : Int} (hN : 82 < N) : WP d 108 378 [l0] (vI z1 :: .ref 82 :: st) (N, L, M) Q = WP d 108 381 [l0] (st) (N, L, up M 82 36 (vI z1)) Q := w_putf (ci := 9) (by rfl) (by rfl) (by decide) hN (by rfl) (q_fit_int rfl _)
theorem s108_381  : WP d 108 381 [.ref 82] (st) X Q = WP d 108 382 [.ref 82] (.ref 82 :: st) X Q := w_aload_n (by rfl) rfl (by decide)
theorem s108_382 {l0 : Value}  : WP d 108 382 [l0] (st) X Q = WP d 108 383 [l0] (vI (5) :: st) X Q := w_iconst (by rfl)
theorem s108_383 {l0 : Value} {z1 : Int} (hz : 0 ≤ z1 ∧ z1 < 100000) (hN : N < 1000) (hs : q_sh N = (16, z1.toNat)) : WP d 108 383 [l0] (vI z1 :: st) (N, L, M) Q = WP d 108 385 [l0] (.ref N :: st) (N + 1, L, mk M N (fun _ => vI 0)) Q := w_newa (by rfl) (k := 16) rfl (by decide) hN hz hs
theorem s108_385 {l0 : Value} {b1 : Nat} (hN : 82 < N) (hb : b1 ≠ 1004) : WP d 108 385 [l0] (.ref b1 :: .ref 82 :: st) (N, L, M) Q = WP d 108 388 [l0] (st) (N, L, up M 82 37 (.ref b1)) Q := w_putf (ci := 9) (by rfl) (by rfl) (by decide) hN (by rfl) (q_fit_ref rfl hb)
theorem s108_388  : WP d 108 388 [.ref 82] (st) X Q = WP d 108 389 [.ref 82] (.ref 82 :: st) X Q := w_aload_n (by rfl) rfl (by decide)
theorem s108_389 {l0 : Value}  : WP d 108 389 [l0] (st) X Q = WP d 108 390 [l0] (vI (5) :: st) X Q := w_iconst (by rfl)
theorem s108_390 {l0 : Value} {z1 : Int} (hz : 0 ≤ z1 ∧ z1 < 100000) (hN : N < 1000) (hs : q_sh N = (16, z1.toNat)) : WP d 108 390 [l0] (vI z1 :: st) (N, L, M) Q = WP d 108 392 [l0] (.ref N :: st) (N + 1, L, mk M N (fun _ => vI 0)) Q := w_newa (by rfl) (k := 16) rfl (by decide) hN hz hs
theorem s108_392 {l0 : Value} {b1 : Nat} (hN : 82 < N) (hb : b1 ≠ 1004) : WP d 108 392 [l0] (.ref b1 :: .ref 82 :: st) (N, L, M) Q = WP d 108 395 [l0] (st) (N, L, up M 82 38 (.ref b1)) Q := w_putf (ci := 9) (by rfl) (by rfl) (by decide) hN (by rfl) (q_fit_ref rfl hb)
theorem s108_395  : WP d 108 395 [.ref 82] (st) X Q = WP d 108 396 [.ref 82] (.ref 82 :: st) X Q := w_aload_n (by rfl) rfl (by decide)
theorem s108_396 {l0 : Value}  : WP d 108 396 [l0] (st) X Q = WP d 108 397 [l0] (vI (5) :: st) X Q := w_iconst (by rfl)
theorem s108_397 {l0 : Value} {z1 : Int} (hz : 0 ≤ z1 ∧ z1 < 100000) (hN : N < 1000) (hs : q_sh N = (16, z1.toNat)) : WP d 108 397 [l0] (vI z1 :: st) (N, L, M) Q = WP d 108 399 [l0] (.ref N :: st) (N + 1, L, mk M N (fun _ => vI 0)) Q := w_newa (by rfl) (k := 16) rfl (by decide) hN hz hs
theorem s108_399 {l0 : Value} {b1 : Nat} (hN : 82 < N) (hb : b1 ≠ 1004) : WP d 108 399 [l0] (.ref b1 :: .ref 82 :: st) (N, L, M) Q = WP d 108 402 [l0] (st) (N, L, up M 82 39 (.ref b1)) Q := w_putf (ci := 9) (by rfl) (by rfl) (by decide) hN (by rfl) (q_fit_ref rfl hb)
theorem s108_402  : WP d 108 402 [.ref 82] (st) X Q = WP d 108 403 [.ref 82] (.ref 82 :: st) X Q := w_aload_n (by rfl) rfl (by decide)
theorem s108_403 {l0 : Value}  : WP d 108 403 [l0] (st) X Q = WP d 108 404 [l0] (vI (0) :: st) X Q := w_iconst (by rfl)
theorem s108_404 {l0 : Value} {z1 : Int} (hN : 82 < N) : WP d 108 404 [l0] (vI z1 :: .ref 82 :: st) (N, L, M) Q = WP d 108 407 [l0] (st) (N, L, up M 82 40 (vI z1)) Q := w_putf (ci := 9) (by rfl) (by rfl) (by decide) hN (by rfl) (q_fit_int rfl _)
theorem s108_407  : WP d 108 407 [.ref 82] (st) X Q = WP d 108 408 [.ref 82] (.ref 82 :: st) X Q := w_aload_n (by rfl) rfl (by decide)
theorem s108_408 {l0 : Value}  : WP d 108 408 [l0] (st) X Q = WP d 108 409 [l0] (vI (0) :: st) X Q := w_iconst (by rfl)
theorem s108_409 {l0 : Value} {z1 : Int} (hN : 82 < N) : WP d 108 409 [l0] (vI z1 :: .ref 82 :: st) (N, L, M) Q = WP d 108 412 [l0] (st) (N, L, up M 82 41 (vI z1)) Q := w_putf (ci := 9) (by rfl) (by rfl) (by decide) hN (by rfl) (q_fit_int rfl _)
theorem s108_412  : WP d 108 412 [.ref 82] (st) X Q = WP d 108 413 [.ref 82] (.ref 82 :: st) X Q := w_aload_n (by rfl) rfl (by decide)
theorem s108_413 {l0 : Value}  : WP d 108 413 [l0] (st) X Q = WP d 108 415 [l0] (vI (10) :: st) X Q := w_bipush (by rfl) (by decide)
theorem s108_415 {l0 : Value} {z1 : Int} (hz : 0 ≤ z1 ∧ z1 < 100000) (hN : N < 1000) (hs : q_sh N = (16, z1.toNat)) : WP d 108 415 [l0] (vI z1 :: st) (N, L, M) Q = WP d 108 417 [l0] (.ref N :: st) (N + 1, L, mk M N (fun _ => vI 0)) Q := w_newa (by rfl) (k := 16) rfl (by decide) hN hz hs
theorem s108_417 {l0 : Value} {b1 : Nat} (hN : 82 < N) (hb : b1 ≠ 1004) : WP d 108 417 [l0] (.ref b1 :: .ref 82 :: st) (N, L, M) Q = WP d 108 420 [l0] (st) (N, L, up M 82 42 (.ref b1)) Q := w_putf (ci := 9) (by rfl) (by rfl) (by decide) hN (by rfl) (q_fit_ref rfl hb)
theorem s108_420  : WP d 108 420 [.ref 82] (st) X Q = WP d 108 421 [.ref 82] (.ref 82 :: st) X Q := w_aload_n (by rfl) rfl (by decide)
theorem s108_421 {l0 : Value}  : WP d 108 421 [l0] (st) X Q = WP d 108 423 [l0] (vI (10) :: st) X Q := w_bipush (by rfl) (by decide)
theorem s108_423 {l0 : Value} {z1 : Int} (hz : 0 ≤ z1 ∧ z1 < 100000) (hN : N < 1000) (hs : q_sh N = (16, z1.toNat)) : WP d 108 423 [l0] (vI z1 :: st) (N, L, M) Q = WP d 108 425 [l0] (.ref N :: st) (N + 1, L, mk M N (fun _ => vI 0)) Q := w_newa (by rfl) (k := 16) rfl (by decide) hN hz hs
theorem s108_425 {l0 : Value} {b1 : Nat} (hN : 82 < N) (hb : b1 ≠ 1004) : WP d 108 425 [l0] (.ref b1 :: .ref 82 :: st) (N, L, M) Q = WP d 108 428 [l0] (st) (N, L, up M 82 43 (.ref b1)) Q := w_putf (ci := 9) (by rfl) (by rfl) (by decide) hN (by rfl) (q_fit_ref rfl hb)
theorem s108_428  : WP d 108 428 [.ref 82] (st) X Q = WP d 108 429 [.ref 82] (.ref 82 :: st) X Q := w_aload_n (by rfl) rfl (by decide)
theorem s108_429 {l0 : Value}  : WP d 108 429 [l0] (st) X Q = WP d 108 431 [l0] (vI (8) :: st) X Q := w_bipush (by rfl) (by decide)
theorem s108_431 {l0 : Value} {z1 : Int} (hz : 0 ≤ z1 ∧ z1 < 100000) (hN : N < 1000) (hs : q_sh N = (16, z1.toNat)) : WP d 108 431 [l0] (vI z1 :: st) (N, L, M) Q = WP d 108 433 [l0] (.ref N :: st) (N + 1, L, mk M N (fun _ => vI 0)) Q := w_newa (by rfl) (k := 16) rfl (by decide) hN hz hs
theorem s108_433 {l0 : Value} {b1 : Nat} (hN : 82 < N) (hb : b1 ≠ 1004) : WP d 108 433 [l0] (.ref b1 :: .ref 82 :: st) (N, L, M) Q = WP d 108 436 [l0] (st) (N, L, up M 82 44 (.ref b1)) Q := w_putf (ci := 9) (by rfl) (by rfl) (by decide) hN (by rfl) (q_fit_ref rfl hb)
theorem s108_436  : WP d 108 436 [.ref 82] (st) X Q = WP d 108 437 [.ref 82] (.ref 82 :: st) X Q := w_aload_n (by rfl) rfl (by decide)
theorem s108_437 {l0 : Value}  : WP d 108 437 [l0] (st) X Q = WP d 108 439 [l0] (vI (8) :: st) X Q := w_bipush (by rfl) (by decide)
theorem s108_439 {l0 : Value} {z1 : Int} (hz : 0 ≤ z1 ∧ z1 < 100000) (hN : N < 1000) (hs : q_sh N = (16, z1.toNat)) : WP d 108 439 [l0] (vI z1 :: st) (N, L, M) Q = WP d 108 441 [l0] (.ref N :: st) (N + 1, L, mk M N (fun _ => vI 0)) Q := w_newa (by rfl) (k := 16) rfl (by decide) hN hz hs
theorem s108_441 {l0 : Value} {b1 : Nat} (hN : 82 < N) (hb : b1 ≠ 1004) : WP d 108 441 [l0] (.ref b1 :: .ref 82 :: st) (N, L, M) Q = WP d 108 444 [l0] (st) (N, L, up M 82 45 (.ref b1)) Q := w_putf (ci := 9) (by rfl) (by rfl) (by decide) hN (by rfl) (q_fit_ref rfl hb)
theorem s108_444  : WP d 108 444 [.ref 82] (st) X Q = WP d 108 445 [.ref 82] (.ref 82 :: st) X Q := w_aload_n (by rfl) rfl (by decide)
theorem s108_445 {l0 : Value}  : WP d 108 445 [l0] (st) X Q = WP d 108 446 [l0] (vI (0) :: st) X Q := w_iconst (by rfl)
theorem s108_446 {l0 : Value} {z1 : Int} (hN : 82 < N) (hz : z1 = 0 ∨ z1 = 1) : WP d 108 446 [l0] (vI z1 :: .ref 82 :: st) (N, L, M) Q = WP d 108 449 [l0] (st) (N, L, up M 82 46 (vI z1)) Q := w_putf (ci := 9) (by rfl) (by rfl) (by decide) hN (by rfl) (by rcases hz with rfl | rfl <;> rfl)
theorem s108_449  : WP d 108 449 [.ref 82] (st) X Q = WP d 108 450 [.ref 82] (.ref 82 :: st) X Q := w_aload_n (by rfl) rfl (by decide)
theorem s108_450 {l0 : Value}  : WP d 108 450 [l0] (st) X Q = WP d 108 451 [l0] (vI (-1) :: st) X Q := w_iconst (by rfl)
theorem s108_451 {l0 : Value} {z1 : Int} (hN : 82 < N) : WP d 108 451 [l0] (vI z1 :: .ref 82 :: st) (N, L, M) Q = WP d 108 454 [l0] (st) (N, L, up M 82 47 (vI z1)) Q := w_putf (ci := 9) (by rfl) (by rfl) (by decide) hN (by rfl) (q_fit_int rfl _)
theorem s108_454  : WP d 108 454 [.ref 82] (st) X Q = WP d 108 455 [.ref 82] (.ref 82 :: st) X Q := w_aload_n (by rfl) rfl (by decide)
theorem s108_455 {l0 : Value}  : WP d 108 455 [l0] (st) X Q = WP d 108 456 [l0] (vI (0) :: st) X Q := w_iconst (by rfl)
theorem s108_456 {l0 : Value} {z1 : Int} (hN : 82 < N) : WP d 108 456 [l0] (vI z1 :: .ref 82 :: st) (N, L, M) Q = WP d 108 459 [l0] (st) (N, L, up M 82 48 (vI z1)) Q := w_putf (ci := 9) (by rfl) (by rfl) (by decide) hN (by rfl) (q_fit_int rfl _)
theorem s108_459  : WP d 108 459 [.ref 82] (st) X Q = WP d 108 460 [.ref 82] (.ref 82 :: st) X Q := w_aload_n (by rfl) rfl (by decide)
theorem s108_460 {l0 : Value}  : WP d 108 460 [l0] (st) X Q = WP d 108 461 [l0] (vI (0) :: st) X Q := w_iconst (by rfl)
theorem s108_461 {l0 : Value} {z1 : Int} (hN : 82 < N) : WP d 108 461 [l0] (vI z1 :: .ref 82 :: st) (N, L, M) Q = WP d 108 464 [l0] (st) (N, L, up M 82 49 (vI z1)) Q := w_putf (ci := 9) (by rfl) (by rfl) (by decide) hN (by rfl) (q_fit_int rfl _)
theorem s108_464  : WP d 108 464 [.ref 82] (st) X Q = WP d 108 465 [.ref 82] (.ref 82 :: st) X Q := w_aload_n (by rfl) rfl (by decide)
theorem s108_465 {l0 : Value}  : WP d 108 465 [l0] (st) X Q = WP d 108 466 [l0] (vI (0) :: st) X Q := w_iconst (by rfl)
theorem s108_466 {l0 : Value} {z1 : Int} (hN : 82 < N) : WP d 108 466 [l0] (vI z1 :: .ref 82 :: st) (N, L, M) Q = WP d 108 469 [l0] (st) (N, L, up M 82 50 (vI z1)) Q := w_putf (ci := 9) (by rfl) (by rfl) (by decide) hN (by rfl) (q_fit_int rfl _)
theorem s108_469  : WP d 108 469 [.ref 82] (st) X Q = WP d 108 470 [.ref 82] (.ref 82 :: st) X Q := w_aload_n (by rfl) rfl (by decide)
theorem s108_470 {l0 : Value}  : WP d 108 470 [l0] (st) X Q = WP d 108 471 [l0] (vI (0) :: st) X Q := w_iconst (by rfl)
theorem s108_471 {l0 : Value} {z1 : Int} (hN : 82 < N) : WP d 108 471 [l0] (vI z1 :: .ref 82 :: st) (N, L, M) Q = WP d 108 474 [l0] (st) (N, L, up M 82 51 (vI z1)) Q := w_putf (ci := 9) (by rfl) (by rfl) (by decide) hN (by rfl) (q_fit_int rfl _)
theorem s108_474  : WP d 108 474 [.ref 82] (st) X Q = WP d 108 475 [.ref 82] (.ref 82 :: st) X Q := w_aload_n (by rfl) rfl (by decide)
theorem s108_475 {l0 : Value}  : WP d 108 475 [l0] (st) X Q = WP d 108 476 [l0] (vI (0) :: st) X Q := w_iconst (by rfl)
theorem s108_476 {l0 : Value} {z1 : Int} (hN : 82 < N) : WP d 108 476 [l0] (vI z1 :: .ref 82 :: st) (N, L, M) Q = WP d 108 479 [l0] (st) (N, L, up M 82 52 (vI z1)) Q := w_putf (ci := 9) (by rfl) (by rfl) (by decide) hN (by rfl) (q_fit_int rfl _)
theorem s108_479  : WP d 108 479 [.ref 82] (st) X Q = WP d 108 480 [.ref 82] (.ref 82 :: st) X Q := w_aload_n (by rfl) rfl (by decide)
theorem s108_480 {l0 : Value}  : WP d 108 480 [l0] (st) X Q = WP d 108 481 [l0] (vI (0) :: st) X Q := w_iconst (by rfl)
theorem s108_481 {l0 : Value} {z1 : Int} (hN : 82 < N) : WP d 108 481 [l0] (vI z1 :: .ref 82 :: st) (N, L, M) Q = WP d 108 484 [l0] (st) (N, L, up M 82 53 (vI z1)) Q := w_putf (ci := 9) (by rfl) (by rfl) (by decide) hN (by rfl) (q_fit_int rfl _)
theorem s108_484  : WP d 108 484 [.ref 82] (st) X Q = WP d 108 485 [.ref 82] (.ref 82 :: st) X Q := w_aload_n (by rfl) rfl (by decide)
theorem s108_485 {l0 : Value}  : WP d 108 485 [l0] (st) X Q = WP d 108 486 [l0] (vI (0) :: st) X Q := w_iconst (by rfl)
theorem s108_486 {l0 : Value} {z1 : Int} (hN : 82 < N) : WP d 108 486 [l0] (vI z1 :: .ref 82 :: st) (N, L, M) Q = WP d 108 489 [l0] (st) (N, L, up M 82 54 (vI z1)) Q := w_putf (ci := 9) (by rfl) (by rfl) (by decide) hN (by rfl) (q_fit_int rfl _)
theorem s108_489  : WP d 108 489 [.ref 82] (st) X Q = WP d 108 490 [.ref 82] (.ref 82 :: st) X Q := w_aload_n (by rfl) rfl (by decide)
theorem s108_490 {l0 : Value}  : WP d 108 490 [l0] (st) X Q = WP d 108 492 [l0] (vI (6) :: st) X Q := w_bipush (by rfl) (by decide)
theorem s108_492 {l0 : Value} {z1 : Int} (hz : 0 ≤ z1 ∧ z1 < 100000) (hN : N < 1000) (hs : q_sh N = (16, z1.toNat)) : WP d 108 492 [l0] (vI z1 :: st) (N, L, M) Q = WP d 108 494 [l0] (.ref N :: st) (N + 1, L, mk M N (fun _ => vI 0)) Q := w_newa (by rfl) (k := 16) rfl (by decide) hN hz hs
theorem s108_494 {l0 : Value} {b1 : Nat} (hN : 82 < N) (hb : b1 ≠ 1004) : WP d 108 494 [l0] (.ref b1 :: .ref 82 :: st) (N, L, M) Q = WP d 108 497 [l0] (st) (N, L, up M 82 55 (.ref b1)) Q := w_putf (ci := 9) (by rfl) (by rfl) (by decide) hN (by rfl) (q_fit_ref rfl hb)
theorem s108_497  : WP d 108 497 [.ref 82] (st) X Q = WP d 108 498 [.ref 82] (.ref 82 :: st) X Q := w_aload_n (by rfl) rfl (by decide)
theorem s108_498 {l0 : Value}  : WP d 108 498 [l0] (st) X Q = WP d 108 500 [l0] (vI (6) :: st) X Q := w_bipush (by rfl) (by decide)
theorem s108_500 {l0 : Value} {z1 : Int} (hz : 0 ≤ z1 ∧ z1 < 100000) (hN : N < 1000) (hs : q_sh N = (16, z1.toNat)) : WP d 108 500 [l0] (vI z1 :: st) (N, L, M) Q = WP d 108 502 [l0] (.ref N :: st) (N + 1, L, mk M N (fun _ => vI 0)) Q := w_newa (by rfl) (k := 16) rfl (by decide) hN hz hs
theorem s108_502 {l0 : Value} {b1 : Nat} (hN : 82 < N) (hb : b1 ≠ 1004) : WP d 108 502 [l0] (.ref b1 :: .ref 82 :: st) (N, L, M) Q = WP d 108 505 [l0] (st) (N, L, up M 82 56 (.ref b1)) Q := w_putf (ci := 9) (by rfl) (by rfl) (by decide) hN (by rfl) (q_fit_ref rfl hb)
theorem s108_505  : WP d 108 505 [.ref 82] (st) X Q = WP d 108 506 [.ref 82] (.ref 82 :: st) X Q := w_aload_n (by rfl) rfl (by decide)
theorem s108_506 {l0 : Value}  : WP d 108 506 [l0] (st) X Q = WP d 108 508 [l0] (vI (6) :: st) X Q := w_bipush (by rfl) (by decide)
theorem s108_508 {l0 : Value} {z1 : Int} (hz : 0 ≤ z1 ∧ z1 < 100000) (hN : N < 1000) (hs : q_sh N = (16, z1.toNat)) : WP d 108 508 [l0] (vI z1 :: st) (N, L, M) Q = WP d 108 510 [l0] (.ref N :: st) (N + 1, L, mk M N (fun _ => vI 0)) Q := w_newa (by rfl) (k := 16) rfl (by decide) hN hz hs
theorem s108_510 {l0 : Value} {b1 : Nat} (hN : 82 < N) (hb : b1 ≠ 1004) : WP d 108 510 [l0] (.ref b1 :: .ref 82 :: st) (N, L, M) Q = WP d 108 513 [l0] (st) (N, L, up M 82 57 (.ref b1)) Q := w_putf (ci := 9) (by rfl) (by rfl) (by decide) hN (by rfl) (q_fit_ref rfl hb)
theorem s108_513  : WP d 108 513 [.ref 82] (st) X Q = WP d 108 514 [.ref 82] (.ref 82 :: st) X Q := w_aload_n (by rfl) rfl (by decide)
theorem s108_514 {l0 : Value}  : WP d 108 514 [l0] (st) X Q = WP d 108 516 [l0] (vI (24) :: st) X Q := w_bipush (by rfl) (by decide)
theorem s108_516 {l0 : Value} {z1 : Int} (hz : 0 ≤ z1 ∧ z1 < 100000) (hN : N < 1000) (hs : q_sh N = (16, z1.toNat)) : WP d 108 516 [l0] (vI z1 :: st) (N, L, M) Q = WP d 108 518 [l0] (.ref N :: st) (N + 1, L, mk M N (fun _ => vI 0)) Q := w_newa (by rfl) (k := 16) rfl (by decide) hN hz hs
theorem s108_518 {l0 : Value} {b1 : Nat} (hN : 82 < N) (hb : b1 ≠ 1004) : WP d 108 518 [l0] (.ref b1 :: .ref 82 :: st) (N, L, M) Q = WP d 108 521 [l0] (st) (N, L, up M 82 58 (.ref b1)) Q := w_putf (ci := 9) (by rfl) (by rfl) (by decide) hN (by rfl) (q_fit_ref rfl hb)
theorem s108_521  : WP d 108 521 [.ref 82] (st) X Q = WP d 108 522 [.ref 82] (.ref 82 :: st) X Q := w_aload_n (by rfl) rfl (by decide)
theorem s108_522 {l0 : Value}  : WP d 108 522 [l0] (st) X Q = WP d 108 523 [l0] (vI (4) :: st) X Q := w_iconst (by rfl)
theorem s108_523 {l0 : Value} {z1 : Int} (hz : 0 ≤ z1 ∧ z1 < 100000) (hN : N < 1000) (hs : q_sh N = (16, z1.toNat)) : WP d 108 523 [l0] (vI z1 :: st) (N, L, M) Q = WP d 108 525 [l0] (.ref N :: st) (N + 1, L, mk M N (fun _ => vI 0)) Q := w_newa (by rfl) (k := 16) rfl (by decide) hN hz hs
theorem s108_525 {l0 : Value} {b1 : Nat} (hN : 82 < N) (hb : b1 ≠ 1004) : WP d 108 525 [l0] (.ref b1 :: .ref 82 :: st) (N, L, M) Q = WP d 108 528 [l0] (st) (N, L, up M 82 59 (.ref b1)) Q := w_putf (ci := 9) (by rfl) (by rfl) (by decide) hN (by rfl) (q_fit_ref rfl hb)
theorem s108_528  : WP d 108 528 [.ref 82] (st) X Q = WP d 108 529 [.ref 82] (.ref 82 :: st) X Q := w_aload_n (by rfl) rfl (by decide)
theorem s108_529 {l0 : Value}  : WP d 108 529 [l0] (st) X Q = WP d 108 531 [l0] (vI (10) :: st) X Q := w_bipush (by rfl) (by decide)
theorem s108_531 {l0 : Value} {z1 : Int} (hz : 0 ≤ z1 ∧ z1 < 100000) (hN : N < 1000) (hs : q_sh N = (16, z1.toNat)) : WP d 108 531 [l0] (vI z1 :: st) (N, L, M) Q = WP d 108 533 [l0] (.ref N :: st) (N + 1, L, mk M N (fun _ => vI 0)) Q := w_newa (by rfl) (k := 16) rfl (by decide) hN hz hs
theorem s108_533 {l0 : Value} {b1 : Nat} (hN : 82 < N) (hb : b1 ≠ 1004) : WP d 108 533 [l0] (.ref b1 :: .ref 82 :: st) (N, L, M) Q = WP d 108 536 [l0] (st) (N, L, up M 82 60 (.ref b1)) Q := w_putf (ci := 9) (by rfl) (by rfl) (by decide) hN (by rfl) (q_fit_ref rfl hb)
theorem s108_536  : WP d 108 536 [.ref 82] (st) X Q = WP d 108 537 [.ref 82] (.ref 82 :: st) X Q := w_aload_n (by rfl) rfl (by decide)
theorem s108_537 {l0 : Value}  : WP d 108 537 [l0] (st) X Q = WP d 108 538 [l0] (vI (5) :: st) X Q := w_iconst (by rfl)
theorem s108_538 {l0 : Value} {z1 : Int} (hz : 0 ≤ z1 ∧ z1 < 100000) (hN : N < 1000) (hs : q_sh N = (16, z1.toNat)) : WP d 108 538 [l0] (vI z1 :: st) (N, L, M) Q = WP d 108 540 [l0] (.ref N :: st) (N + 1, L, mk M N (fun _ => vI 0)) Q := w_newa (by rfl) (k := 16) rfl (by decide) hN hz hs
theorem s108_540 {l0 : Value} {b1 : Nat} (hN : 82 < N) (hb : b1 ≠ 1004) : WP d 108 540 [l0] (.ref b1 :: .ref 82 :: st) (N, L, M) Q = WP d 108 543 [l0] (st) (N, L, up M 82 61 (.ref b1)) Q := w_putf (ci := 9) (by rfl) (by rfl) (by decide) hN (by rfl) (q_fit_ref rfl hb)
theorem s108_543  : WP d 108 543 [.ref 82] (st) X Q = WP d 108 544 [.ref 82] (.ref 82 :: st) X Q := w_aload_n (by rfl) rfl (by decide)
theorem s108_544 {l0 : Value}  : WP d 108 544 [l0] (st) X Q = WP d 108 545 [l0] (vI (5) :: st) X Q := w_iconst (by rfl)
theorem s108_545 {l0 : Value} {z1 : Int} (hz : 0 ≤ z1 ∧ z1 < 100000) (hN : N < 1000) (hs : q_sh N = (16, z1.toNat)) : WP d 108 545 [l0] (vI z1 :: st) (N, L, M) Q = WP d 108 547 [l0] (.ref N :: st) (N + 1, L, mk M N (fun _ => vI 0)) Q := w_newa (by rfl) (k := 16) rfl (by decide) hN hz hs
theorem s108_547 {l0 : Value} {b1 : Nat} (hN : 82 < N) (hb : b1 ≠ 1004) : WP d 108 547 [l0] (.ref b1 :: .ref 82 :: st) (N, L, M) Q = WP d 108 550 [l0] (st) (N, L, up M 82 62 (.ref b1)) Q := w_putf (ci := 9) (by rfl) (by rfl) (by decide) hN (by rfl) (q_fit_ref rfl hb)
theorem s108_550  : WP d 108 550 [.ref 82] (st) X Q = WP d 108 551 [.ref 82] (.ref 82 :: st) X Q := w_aload_n (by rfl) rfl (by decide)
theorem s108_551 {l0 : Value}  : WP d 108 551 [l0] (st) X Q = WP d 108 552 [l0] (vI (5) :: st) X Q := w_iconst (by rfl)
theorem s108_552 {l0 : Value} {z1 : Int} (hz : 0 ≤ z1 ∧ z1 < 100000) (hN : N < 1000) (hs : q_sh N = (16, z1.toNat)) : WP d 108 552 [l0] (vI z1 :: st) (N, L, M) Q = WP d 108 554 [l0] (.ref N :: st) (N + 1, L, mk M N (fun _ => vI 0)) Q := w_newa (by rfl) (k := 16) rfl (by decide) hN hz hs
theorem s108_554 {l0 : Value} {b1 : Nat} (hN : 82 < N) (hb : b1 ≠ 1004) : WP d 108 554 [l0] (.ref b1 :: .ref 82 :: st) (N, L, M) Q = WP d 108 557 [l0] (st) (N, L, up M 82 63 (.ref b1)) Q := w_putf (ci := 9) (by rfl) (by rfl) (by decide) hN (by rfl) (q_fit_ref rfl hb)
theorem s108_557  : WP d 108 557 [.ref 82] (st) X Q = WP d 108 558 [.ref 82] (.ref 82 :: st) X Q := w_aload_n (by rfl) rfl (by decide)
theorem s108_558 {l0 : Value}  : WP d 108 558 [l0] (st) X Q = WP d 108 560 [l0] (vI (10) :: st) X Q := w_bipush (by rfl) (by decide)
theorem s108_560 {l0 : Value} {z1 : Int} (hz : 0 ≤ z1 ∧ z1 < 100000) (hN : N < 1000) (hs : q_sh N = (16, z1.toNat)) : WP d 108 560 [l0] (vI z1 :: st) (N, L, M) Q = WP d 108 562 [l0] (.ref N :: st) (N + 1, L, mk M N (fun _ => vI 0)) Q := w_newa (by rfl) (k := 16) rfl (by decide) hN hz hs
theorem s108_562 {l0 : Value} {b1 : Nat} (hN : 82 < N) (hb : b1 ≠ 1004) : WP d 108 562 [l0] (.ref b1 :: .ref 82 :: st) (N, L, M) Q = WP d 108 565 [l0] (st) (N, L, up M 82 64 (.ref b1)) Q := w_putf (ci := 9) (by rfl) (by rfl) (by decide) hN (by rfl) (q_fit_ref rfl hb)
theorem s108_565  : WP d 108 565 [.ref 82] (st) X Q = WP d 108 566 [.ref 82] (.ref 82 :: st) X Q := w_aload_n (by rfl) rfl (by decide)
theorem s108_566 {l0 : Value}  : WP d 108 566 [l0] (st) X Q = WP d 108 568 [l0] (vI (10) :: st) X Q := w_bipush (by rfl) (by decide)
theorem s108_568 {l0 : Value} {z1 : Int} (hz : 0 ≤ z1 ∧ z1 < 100000) (hN : N < 1000) (hs : q_sh N = (16, z1.toNat)) : WP d 108 568 [l0] (vI z1 :: st) (N, L, M) Q = WP d 108 570 [l0] (.ref N :: st) (N + 1, L, mk M N (fun _ => vI 0)) Q := w_newa (by rfl) (k := 16) rfl (by decide) hN hz hs
theorem s108_570 {l0 : Value} {b1 : Nat} (hN : 82 < N) (hb : b1 ≠ 1004) : WP d 108 570 [l0] (.ref b1 :: .ref 82 :: st) (N, L, M) Q = WP d 108 573 [l0] (st) (N, L, up M 82 65 (.ref b1)) Q := w_putf (ci := 9) (by rfl) (by rfl) (by decide) hN (by rfl) (q_fit_ref rfl hb)
theorem s108_573  : WP d 108 573 [.ref 82] (st) X Q = WP d 108 574 [.ref 82] (.ref 82 :: st) X Q := w_aload_n (by rfl) rfl (by decide)
theorem s108_574 {l0 : Value}  : WP d 108 574 [l0] (st) X Q = WP d 108 576 [l0] (vI (8) :: st) X Q := w_bipush (by rfl) (by decide)
theorem s108_576 {l0 : Value} {z1 : Int} (hz : 0 ≤ z1 ∧ z1 < 100000) (hN : N < 1000) (hs : q_sh N = (16, z1.toNat)) : WP d 108 576 [l0] (vI z1 :: st) (N, L, M) Q = WP d 108 578 [l0] (.ref N :: st) (N + 1, L, mk M N (fun _ => vI 0)) Q := w_newa (by rfl) (k := 16) rfl (by decide) hN hz hs
theorem s108_578 {l0 : Value} {b1 : Nat} (hN : 82 < N) (hb : b1 ≠ 1004) : WP d 108 578 [l0] (.ref b1 :: .ref 82 :: st) (N, L, M) Q = WP d 108 581 [l0] (st) (N, L, up M 82 66 (.ref b1)) Q := w_putf (ci := 9) (by rfl) (by rfl) (by decide) hN (by rfl) (q_fit_ref rfl hb)
theorem s108_581  : WP d 108 581 [.ref 82] (st) X Q = WP d 108 582 [.ref 82] (.ref 82 :: st) X Q := w_aload_n (by rfl) rfl (by decide)
theorem s108_582 {l0 : Value}  : WP d 108 582 [l0] (st) X Q = WP d 108 584 [l0] (vI (8) :: st) X Q := w_bipush (by rfl) (by decide)
theorem s108_584 {l0 : Value} {z1 : Int} (hz : 0 ≤ z1 ∧ z1 < 100000) (hN : N < 1000) (hs : q_sh N = (16, z1.toNat)) : WP d 108 584 [l0] (vI z1 :: st) (N, L, M) Q = WP d 108 586 [l0] (.ref N :: st) (N + 1, L, mk M N (fun _ => vI 0)) Q := w_newa (by rfl) (k := 16) rfl (by decide) hN hz hs
theorem s108_586 {l0 : Value} {b1 : Nat} (hN : 82 < N) (hb : b1 ≠ 1004) : WP d 108 586 [l0] (.ref b1 :: .ref 82 :: st) (N, L, M) Q = WP d 108 589 [l0] (st) (N, L, up M 82 67 (.ref b1)) Q := w_putf (ci := 9) (by rfl) (by rfl) (by decide) hN (by rfl) (q_fit_ref rfl hb)
theorem s108_589  : WP d 108 589 [.ref 82] (st) X Q = WP d 108 590 [.ref 82] (.ref 82 :: st) X Q := w_aload_n (by rfl) rfl (by decide)
theorem s108_590 {l0 : Value}  : WP d 108 590 [l0] (st) X Q = WP d 108 591 [l0] (vI (0) :: st) X Q := w_iconst (by rfl)
theorem s108_591 {l0 : Value} {z1 : Int} (hN : 82 < N) : WP d 108 591 [l0] (vI z1 :: .ref 82 :: st) (N, L, M) Q = WP d 108 594 [l0] (st) (N, L, up M 82 68 (vI z1)) Q := w_putf (ci := 9) (by rfl) (by rfl) (by decide) hN (by rfl) (q_fit_int rfl _)
theorem s108_594  : WP d 108 594 [.ref 82] (st) X Q = WP d 108 595 [.ref 82] (.ref 82 :: st) X Q := w_aload_n (by rfl) rfl (by decide)
theorem s108_595 {l0 : Value}  : WP d 108 595 [l0] (st) X Q = WP d 108 597 [l0] (vI (20) :: st) X Q := w_bipush (by rfl) (by decide)
theorem s108_597 {l0 : Value} {z1 : Int} (hz : 0 ≤ z1 ∧ z1 < 100000) (hN : N < 1000) (hs : q_sh N = (16, z1.toNat)) : WP d 108 597 [l0] (vI z1 :: st) (N, L, M) Q = WP d 108 599 [l0] (.ref N :: st) (N + 1, L, mk M N (fun _ => vI 0)) Q := w_newa (by rfl) (k := 16) rfl (by decide) hN hz hs
theorem s108_599 {l0 : Value} {b1 : Nat} (hN : 82 < N) (hb : b1 ≠ 1004) : WP d 108 599 [l0] (.ref b1 :: .ref 82 :: st) (N, L, M) Q = WP d 108 602 [l0] (st) (N, L, up M 82 69 (.ref b1)) Q := w_putf (ci := 9) (by rfl) (by rfl) (by decide) hN (by rfl) (q_fit_ref rfl hb)
theorem s108_602  : WP d 108 602 [.ref 82] (st) X Q = WP d 108 603 [.ref 82] (.ref 82 :: st) X Q := w_aload_n (by rfl) rfl (by decide)
theorem s108_603 {l0 : Value}  : WP d 108 603 [l0] (st) X Q = WP d 108 605 [l0] (vI (6) :: st) X Q := w_bipush (by rfl) (by decide)
theorem s108_605 {l0 : Value} {z1 : Int} (hz : 0 ≤ z1 ∧ z1 < 100000) (hN : N < 1000) (hs : q_sh N = (16, z1.toNat)) : WP d 108 605 [l0] (vI z1 :: st) (N, L, M) Q = WP d 108 607 [l0] (.ref N :: st) (N + 1, L, mk M N (fun _ => vI 0)) Q := w_newa (by rfl) (k := 16) rfl (by decide) hN hz hs
theorem s108_607 {l0 : Value} {a1 : Nat} : WP d 108 607 [l0] (.ref a1 :: st) X Q = WP d 108 608 [l0] (.ref a1 :: .ref a1 :: st) X Q := w_dup (by rfl) rfl
theorem s108_608 {l0 : Value}  : WP d 108 608 [l0] (st) X Q = WP d 108 609 [l0] (vI (0) :: st) X Q := w_iconst (by rfl)
theorem s108_609 {l0 : Value}  : WP d 108 609 [l0] (st) X Q = WP d 108 610 [l0] (vI (-1) :: st) X Q := w_iconst (by rfl)
theorem s108_610 {l0 : Value} {j1 : Int} {z2 : Int} (hj : 0 ≤ j1 ∧ j1 < 6) (hN : 125 < N) : WP d 108 610 [l0] (vI z2 :: vI j1 :: .ref 125 :: st) (N, L, M) Q = WP d 108 611 [l0] (st) (N, L, up M 125 j1.toNat (vI z2)) Q := w_iast (by rfl) (m := 6) (by rfl) hN hj (by decide)
theorem s108_611 {l0 : Value} {a1 : Nat} : WP d 108 611 [l0] (.ref a1 :: st) X Q = WP d 108 612 [l0] (.ref a1 :: .ref a1 :: st) X Q := w_dup (by rfl) rfl
theorem s108_612 {l0 : Value}  : WP d 108 612 [l0] (st) X Q = WP d 108 613 [l0] (vI (1) :: st) X Q := w_iconst (by rfl)
theorem s108_613 {l0 : Value}  : WP d 108 613 [l0] (st) X Q = WP d 108 614 [l0] (vI (-1) :: st) X Q := w_iconst (by rfl)
theorem s108_614 {l0 : Value} {j1 : Int} {z2 : Int} (hj : 0 ≤ j1 ∧ j1 < 6) (hN : 125 < N) : WP d 108 614 [l0] (vI z2 :: vI j1 :: .ref 125 :: st) (N, L, M) Q = WP d 108 615 [l0] (st) (N, L, up M 125 j1.toNat (vI z2)) Q := w_iast (by rfl) (m := 6) (by rfl) hN hj (by decide)
theorem s108_615 {l0 : Value} {a1 : Nat} : WP d 108 615 [l0] (.ref a1 :: st) X Q = WP d 108 616 [l0] (.ref a1 :: .ref a1 :: st) X Q := w_dup (by rfl) rfl
theorem s108_616 {l0 : Value}  : WP d 108 616 [l0] (st) X Q = WP d 108 617 [l0] (vI (2) :: st) X Q := w_iconst (by rfl)
theorem s108_617 {l0 : Value}  : WP d 108 617 [l0] (st) X Q = WP d 108 618 [l0] (vI (-1) :: st) X Q := w_iconst (by rfl)
theorem s108_618 {l0 : Value} {j1 : Int} {z2 : Int} (hj : 0 ≤ j1 ∧ j1 < 6) (hN : 125 < N) : WP d 108 618 [l0] (vI z2 :: vI j1 :: .ref 125 :: st) (N, L, M) Q = WP d 108 619 [l0] (st) (N, L, up M 125 j1.toNat (vI z2)) Q := w_iast (by rfl) (m := 6) (by rfl) hN hj (by decide)
theorem s108_619 {l0 : Value} {a1 : Nat} : WP d 108 619 [l0] (.ref a1 :: st) X Q = WP d 108 620 [l0] (.ref a1 :: .ref a1 :: st) X Q := w_dup (by rfl) rfl
theorem s108_620 {l0 : Value}  : WP d 108 620 [l0] (st) X Q = WP d 108 621 [l0] (vI (3) :: st) X Q := w_iconst (by rfl)
theorem s108_621 {l0 : Value}  : WP d 108 621 [l0] (st) X Q = WP d 108 622 [l0] (vI (-1) :: st) X Q := w_iconst (by rfl)
theorem s108_622 {l0 : Value} {j1 : Int} {z2 : Int} (hj : 0 ≤ j1 ∧ j1 < 6) (hN : 125 < N) : WP d 108 622 [l0] (vI z2 :: vI j1 :: .ref 125 :: st) (N, L, M) Q = WP d 108 623 [l0] (st) (N, L, up M 125 j1.toNat (vI z2)) Q := w_iast (by rfl) (m := 6) (by rfl) hN hj (by decide)
theorem s108_623 {l0 : Value} {a1 : Nat} : WP d 108 623 [l0] (.ref a1 :: st) X Q = WP d 108 624 [l0] (.ref a1 :: .ref a1 :: st) X Q := w_dup (by rfl) rfl
theorem s108_624 {l0 : Value}  : WP d 108 624 [l0] (st) X Q = WP d 108 625 [l0] (vI (4) :: st) X Q := w_iconst (by rfl)
theorem s108_625 {l0 : Value}  : WP d 108 625 [l0] (st) X Q = WP d 108 626 [l0] (vI (-1) :: st) X Q := w_iconst (by rfl)
theorem s108_626 {l0 : Value} {j1 : Int} {z2 : Int} (hj : 0 ≤ j1 ∧ j1 < 6) (hN : 125 < N) : WP d 108 626 [l0] (vI z2 :: vI j1 :: .ref 125 :: st) (N, L, M) Q = WP d 108 627 [l0] (st) (N, L, up M 125 j1.toNat (vI z2)) Q := w_iast (by rfl) (m := 6) (by rfl) hN hj (by decide)
theorem s108_627 {l0 : Value} {a1 : Nat} : WP d 108 627 [l0] (.ref a1 :: st) X Q = WP d 108 628 [l0] (.ref a1 :: .ref a1 :: st) X Q := w_dup (by rfl) rfl
theorem s108_628 {l0 : Value}  : WP d 108 628 [l0] (st) X Q = WP d 108 629 [l0] (vI (5) :: st) X Q := w_iconst (by rfl)
theorem s108_629 {l0 : Value}  : WP d 108 629 [l0] (st) X Q = WP d 108 630 [l0] (vI (-1) :: st) X Q := w_iconst (by rfl)
theorem s108_630 {l0 : Value} {j1 : Int} {z2 : Int} (hj : 0 ≤ j1 ∧ j1 < 6) (hN : 125 < N) : WP d 108 630 [l0] (vI z2 :: vI j1 :: .ref 125 :: st) (N, L, M) Q = WP d 108 631 [l0] (st) (N, L, up M 125 j1.toNat (vI z2)) Q := w_iast (by rfl) (m := 6) (by rfl) hN hj (by decide)
theorem s108_631 {l0 : Value} {b1 : Nat} (hN : 82 < N) (hb : b1 ≠ 1004) : WP d 108 631 [l0] (.ref b1 :: .ref 82 :: st) (N, L, M) Q = WP d 108 634 [l0] (st) (N, L, up M 82 70 (.ref b1)) Q := w_putf (ci := 9) (by rfl) (by rfl) (by decide) hN (by rfl) (q_fit_ref rfl hb)
theorem s108_634  : WP d 108 634 [.ref 82] (st) X Q = WP d 108 635 [.ref 82] (.ref 82 :: st) X Q := w_aload_n (by rfl) rfl (by decide)
theorem s108_635 {l0 : Value}  : WP d 108 635 [l0] (st) X Q = WP d 108 637 [l0] (vI (6) :: st) X Q := w_bipush (by rfl) (by decide)
theorem s108_637 {l0 : Value} {z1 : Int} (hz : 0 ≤ z1 ∧ z1 < 100000) (hN : N < 1000) (hs : q_sh N = (16, z1.toNat)) : WP d 108 637 [l0] (vI z1 :: st) (N, L, M) Q = WP d 108 639 [l0] (.ref N :: st) (N + 1, L, mk M N (fun _ => vI 0)) Q := w_newa (by rfl) (k := 16) rfl (by decide) hN hz hs
theorem s108_639 {l0 : Value} {b1 : Nat} (hN : 82 < N) (hb : b1 ≠ 1004) : WP d 108 639 [l0] (.ref b1 :: .ref 82 :: st) (N, L, M) Q = WP d 108 642 [l0] (st) (N, L, up M 82 71 (.ref b1)) Q := w_putf (ci := 9) (by rfl) (by rfl) (by decide) hN (by rfl) (q_fit_ref rfl hb)
theorem s108_642  : WP d 108 642 [.ref 82] (st) X Q = WP d 108 643 [.ref 82] (.ref 82 :: st) X Q := w_aload_n (by rfl) rfl (by decide)
theorem s108_643 {l0 : Value}  : WP d 108 643 [l0] (st) X Q = WP d 108 646 [l0] (vI (360) :: st) X Q := w_sipush (by rfl) (by decide)
theorem s108_646 {l0 : Value} {z1 : Int} (hz : 0 ≤ z1 ∧ z1 < 100000) (hN : N < 1000) (hs : q_sh N = (17, z1.toNat)) : WP d 108 646 [l0] (vI z1 :: st) (N, L, M) Q = WP d 108 648 [l0] (.ref N :: st) (N + 1, L, mk M N (fun _ => vL 0)) Q := w_newa (by rfl) (k := 17) rfl (by decide) hN hz hs
theorem s108_648 {l0 : Value} {b1 : Nat} (hN : 82 < N) (hb : b1 ≠ 1004) : WP d 108 648 [l0] (.ref b1 :: .ref 82 :: st) (N, L, M) Q = WP d 108 651 [l0] (st) (N, L, up M 82 72 (.ref b1)) Q := w_putf (ci := 9) (by rfl) (by rfl) (by decide) hN (by rfl) (q_fit_ref rfl hb)
theorem s108_651  : WP d 108 651 [.ref 82] (st) X Q = WP d 108 652 [.ref 82] (.ref 82 :: st) X Q := w_aload_n (by rfl) rfl (by decide)
theorem s108_652 {l0 : Value}  : WP d 108 652 [l0] (st) X Q = WP d 108 654 [l0] (vI (60) :: st) X Q := w_bipush (by rfl) (by decide)
theorem s108_654 {l0 : Value} {z1 : Int} (hz : 0 ≤ z1 ∧ z1 < 100000) (hN : N < 1000) (hs : q_sh N = (17, z1.toNat)) : WP d 108 654 [l0] (vI z1 :: st) (N, L, M) Q = WP d 108 656 [l0] (.ref N :: st) (N + 1, L, mk M N (fun _ => vL 0)) Q := w_newa (by rfl) (k := 17) rfl (by decide) hN hz hs
theorem s108_656 {l0 : Value} {b1 : Nat} (hN : 82 < N) (hb : b1 ≠ 1004) : WP d 108 656 [l0] (.ref b1 :: .ref 82 :: st) (N, L, M) Q = WP d 108 659 [l0] (st) (N, L, up M 82 73 (.ref b1)) Q := w_putf (ci := 9) (by rfl) (by rfl) (by decide) hN (by rfl) (q_fit_ref rfl hb)
theorem s108_659 {l0 : Value}  : WP d 108 659 [l0] ([]) X Q = Q none X := w_vret (by rfl) (by rfl)
/-! 109 BellsThatEatModel.in -/
theorem e109 {d : Nat} {X : q_H} {z1 : Int} {z2 : Int} {z3 : Int} {r : Option Value} {X' : q_H} (hd : 1 ≤ d) (h : WP (d - 1) 109 0 [.ref 82, vI z1, vI z2, vI z3] [] X (fun r1 X1 => r1 = r ∧ X1 = X')) : Sp d 109 [.ref 82, vI z1, vI z2, vI z3] X r X' := Sp.of1 hd (vs := [.ref 82, vI z1, vI z2, vI z3]) (ls := [.ref 82, vI z1, vI z2, vI z3]) (by rfl) (by rfl) h
theorem E109 {d : Nat} {X : q_H} {z1 : Int} {z2 : Int} {z3 : Int} {Q : Option Value → q_H → Prop} (hd : 1 ≤ d) (h : WP (d - 1) 109 0 [.ref 82, vI z1, vI z2, vI z3] [] X Q) : ∃ r X', Sp d 109 [.ref 82, vI z1, vI z2, vI z3] X r X' ∧ Q r X' := Sp.of2 hd (vs := [.ref 82, vI z1, vI z2, vI z3]) (ls := [.ref 82, vI z1, vI z2, vI z3]) (by rfl) (by rfl) h
theorem s109_0 {l0 l2 l3 : Value} {z1 : Int} : WP d 109 0 [l0, vI z1, l2, l3] (st) X Q = WP d 109 1 [l0, vI z1, l2, l3] (vI z1 :: st) X Q := w_iload_n (by rfl) rfl
theorem s109_1 {l0 l1 l3 : Value} {z1 : Int} : WP d 109 1 [l0, l1, vI z1, l3] (st) X Q = WP d 109 2 [l0, l1, vI z1, l3] (vI z1 :: st) X Q := w_iload_n (by rfl) rfl
theorem s109_2 {l0 l1 l2 l3 : Value} {z1 : Int} {z2 : Int} (h1 : -2147483648 ≤ z1 ∧ z1 ≤ 2147483647) (h2 : -2147483648 ≤ z2 ∧ z2 ≤ 2147483647) : WP d 109 2 [l0, l1, l2, l3] (vI z2 :: vI z1 :: st) X Q = if z1 < z2 then WP d 109 14 [l0, l1, l2, l3] (st) X Q else WP d 109 5 [l0, l1, l2, l3] (st) X Q := w_icmplt (by rfl) (by decide) h1 h2
theorem s109_5 {l0 l2 l3 : Value} {z1 : Int} : WP d 109 5 [l0, vI z1, l2, l3] (st) X Q = WP d 109 6 [l0, vI z1, l2, l3] (vI z1 :: st) X Q := w_iload_n (by rfl) rfl
theorem s109_6 {l0 l1 l2 : Value} {z1 : Int} : WP d 109 6 [l0, l1, l2, vI z1] (st) X Q = WP d 109 7 [l0, l1, l2, vI z1] (vI z1 :: st) X Q := w_iload_n (by rfl) rfl
theorem s109_7 {l0 l1 l2 l3 : Value} {z1 : Int} {z2 : Int} (h1 : -2147483648 ≤ z1 ∧ z1 ≤ 2147483647) (h2 : -2147483648 ≤ z2 ∧ z2 ≤ 2147483647) : WP d 109 7 [l0, l1, l2, l3] (vI z2 :: vI z1 :: st) X Q = if z2 < z1 then WP d 109 14 [l0, l1, l2, l3] (st) X Q else WP d 109 10 [l0, l1, l2, l3] (st) X Q := w_icmpgt (by rfl) (by decide) h1 h2
theorem s109_10 {l0 l1 l2 l3 : Value}  : WP d 109 10 [l0, l1, l2, l3] (st) X Q = WP d 109 11 [l0, l1, l2, l3] (vI (1) :: st) X Q := w_iconst (by rfl)
theorem s109_11 {l0 l1 l2 l3 : Value}  : WP d 109 11 [l0, l1, l2, l3] (st) X Q = WP d 109 15 [l0, l1, l2, l3] (st) X Q := w_goto (by rfl) (by decide)
theorem s109_14 {l0 l1 l2 l3 : Value}  : WP d 109 14 [l0, l1, l2, l3] (st) X Q = WP d 109 15 [l0, l1, l2, l3] (vI (0) :: st) X Q := w_iconst (by rfl)
theorem s109_15 {l0 l1 l2 l3 : Value} {z1 : Int} (hz : z1 = 0 ∨ z1 = 1) : WP d 109 15 [l0, l1, l2, l3] (vI z1 :: []) X Q = Q (some (vI z1)) X := w_iretz (by rfl) (by rfl) (nb_bool hz)
theorem s109_15b {l0 l1 l2 l3 : Value} {P : Prop} [Decidable P] : WP d 109 15 [l0, l1, l2, l3] (vI (bI P) :: []) X Q = Q (some (vI (bI P))) X := w_iretz (by rfl) (by rfl) (nb_bool (bI_01 P))
/-! 110 BellsThatEatModel.has -/
theorem e110 {d : Nat} {X : q_H} {z1 : Int} {z2 : Int} {r : Option Value} {X' : q_H} (hd : 1 ≤ d) (h : WP (d - 1) 110 0 [.ref 82, vI z1, vI z2] [] X (fun r1 X1 => r1 = r ∧ X1 = X')) : Sp d 110 [.ref 82, vI z1, vI z2] X r X' := Sp.of1 hd (vs := [.ref 82, vI z1, vI z2]) (ls := [.ref 82, vI z1, vI z2]) (by rfl) (by rfl) h
theorem E110 {d : Nat} {X : q_H} {z1 : Int} {z2 : Int} {Q : Option Value → q_H → Prop} (hd : 1 ≤ d) (h : WP (d - 1) 110 0 [.ref 82, vI z1, vI z2] [] X Q) : ∃ r X', Sp d 110 [.ref 82, vI z1, vI z2] X r X' ∧ Q r X' := Sp.of2 hd (vs := [.ref 82, vI z1, vI z2]) (ls := [.ref 82, vI z1, vI z2]) (by rfl) (by rfl) h
theorem s110_0 {l0 l2 : Value} {z1 : Int} : WP d 110 0 [l0, vI z1, l2] (st) X Q = WP d 110 1 [l0, vI z1, l2] (vI z1 :: st) X Q := w_iload_n (by rfl) rfl
theorem s110_1 {l0 l1 : Value} {z1 : Int} : WP d 110 1 [l0, l1, vI z1] (st) X Q = WP d 110 2 [l0, l1, vI z1] (vI z1 :: st) X Q := w_iload_n (by rfl) rfl
theorem s110_2 {l0 l1 l2 : Value} {z1 : Int} {z2 : Int} : WP d 110 2 [l0, l1, l2] (vI z2 :: vI z1 :: st) X Q = WP d 110 3 [l0, l1, l2] (vI (ishr z1 z2) :: st) X Q := w_ishr (by rfl)
theorem s110_3 {l0 l1 l2 : Value}  : WP d 110 3 [l0, l1, l2] (st) X Q = WP d 110 4 [l0, l1, l2] (vI (1) :: st) X Q := w_iconst (by rfl)
theorem s110_4 {l0 l1 l2 : Value} {z1 : Int} {z2 : Int} : WP d 110 4 [l0, l1, l2] (vI z2 :: vI z1 :: st) X Q = WP d 110 5 [l0, l1, l2] (vI (iand z1 z2) :: st) X Q := w_iand (by rfl)
theorem s110_5 {l0 l1 l2 : Value}  : WP d 110 5 [l0, l1, l2] (st) X Q = WP d 110 6 [l0, l1, l2] (vI (1) :: st) X Q := w_iconst (by rfl)
theorem s110_6 {l0 l1 l2 : Value} {z1 : Int} {z2 : Int} (h1 : -2147483648 ≤ z1 ∧ z1 ≤ 2147483647) (h2 : -2147483648 ≤ z2 ∧ z2 ≤ 2147483647) : WP d 110 6 [l0, l1, l2] (vI z2 :: vI z1 :: st) X Q = if z1 = z2 then WP d 110 9 [l0, l1, l2] (st) X Q else WP d 110 13 [l0, l1, l2] (st) X Q := w_icmpne (by rfl) (by decide) h1 h2
theorem s110_6b {l0 l1 l2 : Value} {P R : Prop} [Decidable P] [Decidable R] : WP d 110 6 [l0, l1, l2] (vI (bI R) :: vI (bI P) :: st) X Q = if (P ↔ R) then WP d 110 9 [l0, l1, l2] (st) X Q else WP d 110 13 [l0, l1, l2] (st) X Q := w_icmpneb (by rfl) (by decide)
theorem s110_9 {l0 l1 l2 : Value}  : WP d 110 9 [l0, l1, l2] (st) X Q = WP d 110 10 [l0, l1, l2] (vI (1) :: st) X Q := w_iconst (by rfl)
theorem s110_10 {l0 l1 l2 : Value}  : WP d 110 10 [l0, l1, l2] (st) X Q = WP d 110 14 [l0, l1, l2] (st) X Q := w_goto (by rfl) (by decide)
theorem s110_13 {l0 l1 l2 : Value}  : WP d 110 13 [l0, l1, l2] (st) X Q = WP d 110 14 [l0, l1, l2] (vI (0) :: st) X Q := w_iconst (by rfl)
theorem s110_14 {l0 l1 l2 : Value} {z1 : Int} (hz : z1 = 0 ∨ z1 = 1) : WP d 110 14 [l0, l1, l2] (vI z1 :: []) X Q = Q (some (vI z1)) X := w_iretz (by rfl) (by rfl) (nb_bool hz)
theorem s110_14b {l0 l1 l2 : Value} {P : Prop} [Decidable P] : WP d 110 14 [l0, l1, l2] (vI (bI P) :: []) X Q = Q (some (vI (bI P))) X := w_iretz (by rfl) (by rfl) (nb_bool (bI_01 P))
/-! 111 BellsThatEatModel.least0 -/
theorem e111 {d : Nat} {X : q_H} {z1 : Int} {r : Option Value} {X' : q_H} (hd : 1 ≤ d) (h : WP (d - 1) 111 0 [.ref 82, vI z1] [] X (fun r1 X1 => r1 = r ∧ X1 = X')) : Sp d 111 [.ref 82, vI z1] X r X' := Sp.of1 hd (vs := [.ref 82, vI z1]) (ls := [.ref 82, vI z1]) (by rfl) (by rfl) h
theorem E111 {d : Nat} {X : q_H} {z1 : Int} {Q : Option Value → q_H → Prop} (hd : 1 ≤ d) (h : WP (d - 1) 111 0 [.ref 82, vI z1] [] X Q) : ∃ r X', Sp d 111 [.ref 82, vI z1] X r X' ∧ Q r X' := Sp.of2 hd (vs := [.ref 82, vI z1]) (ls := [.ref 82, vI z1]) (by rfl) (by rfl) h
theorem s111_0 {l0 : Value} {z1 : Int} : WP d 111 0 [l0, vI z1] (st) X Q = WP d 111 1 [l0, vI z1] (vI z1 :: st) X Q := w_iload_n (by rfl) rfl
theorem s111_1 {l0 l1 : Value} {z1 : Int} (h1 : -2147483648 ≤ z1 ∧ z1 ≤ 2147483647) : WP d 111 1 [l0, l1] (vI z1 :: st) X Q = if z1 < 0 then WP d 111 4 [l0, l1] (st) X Q else WP d 111 8 [l0, l1] (st) X Q := w_ifge (by rfl) (by decide) h1
theorem s111_4 {l0 l1 : Value}  : WP d 111 4 [l0, l1] (st) X Q = WP d 111 5 [l0, l1] (vI (0) :: st) X Q := w_iconst (by rfl)
theorem s111_5 {l0 l1 : Value}  : WP d 111 5 [l0, l1] (st) X Q = WP d 111 9 [l0, l1] (st) X Q := w_goto (by rfl) (by decide)
theorem s111_8 {l0 : Value} {z1 : Int} : WP d 111 8 [l0, vI z1] (st) X Q = WP d 111 9 [l0, vI z1] (vI z1 :: st) X Q := w_iload_n (by rfl) rfl
theorem s111_9 {l0 l1 : Value} {z1 : Int} : WP d 111 9 [l0, l1] (vI z1 :: []) X Q = Q (some (vI z1)) X := w_ireti (by rfl) (by rfl)
/-! 112 BellsThatEatModel.most99 -/
theorem e112 {d : Nat} {X : q_H} {z1 : Int} {r : Option Value} {X' : q_H} (hd : 1 ≤ d) (h : WP (d - 1) 112 0 [.ref 82, vI z1] [] X (fun r1 X1 => r1 = r ∧ X1 = X')) : Sp d 112 [.ref 82, vI z1] X r X' := Sp.of1 hd (vs := [.ref 82, vI z1]) (ls := [.ref 82, vI z1]) (by rfl) (by rfl) h
theorem E112 {d : Nat} {X : q_H} {z1 : Int} {Q : Option Value → q_H → Prop} (hd : 1 ≤ d) (h : WP (d - 1) 112 0 [.ref 82, vI z1] [] X Q) : ∃ r X', Sp d 112 [.ref 82, vI z1] X r X' ∧ Q r X' := Sp.of2 hd (vs := [.ref 82, vI z1]) (ls := [.ref 82, vI z1]) (by rfl) (by rfl) h
theorem s112_0 {l0 : Value} {z1 : Int} : WP d 112 0 [l0, vI z1] (st) X Q = WP d 112 1 [l0, vI z1] (vI z1 :: st) X Q := w_iload_n (by rfl) rfl
theorem s112_1 {l0 l1 : Value}  : WP d 112 1 [l0, l1] (st) X Q = WP d 112 3 [l0, l1] (vI (99) :: st) X Q := w_bipush (by rfl) (by decide)
theorem s112_3 {l0 l1 : Value} {z1 : Int} {z2 : Int} (h1 : -2147483648 ≤ z1 ∧ z1 ≤ 2147483647) (h2 : -2147483648 ≤ z2 ∧ z2 ≤ 2147483647) : WP d 112 3 [l0, l1] (vI z2 :: vI z1 :: st) X Q = if z2 < z1 then WP d 112 6 [l0, l1] (st) X Q else WP d 112 11 [l0, l1] (st) X Q := w_icmple (by rfl) (by decide) h1 h2
theorem s112_6 {l0 l1 : Value}  : WP d 112 6 [l0, l1] (st) X Q = WP d 112 8 [l0, l1] (vI (99) :: st) X Q := w_bipush (by rfl) (by decide)
theorem s112_8 {l0 l1 : Value}  : WP d 112 8 [l0, l1] (st) X Q = WP d 112 12 [l0, l1] (st) X Q := w_goto (by rfl) (by decide)
theorem s112_11 {l0 : Value} {z1 : Int} : WP d 112 11 [l0, vI z1] (st) X Q = WP d 112 12 [l0, vI z1] (vI z1 :: st) X Q := w_iload_n (by rfl) rfl
theorem s112_12 {l0 l1 : Value} {z1 : Int} : WP d 112 12 [l0, l1] (vI z1 :: []) X Q = Q (some (vI z1)) X := w_ireti (by rfl) (by rfl)
/-! 113 BellsThatEatModel.isBell -/
theorem e113 {d : Nat} {X : q_H} {z1 : Int} {r : Option Value} {X' : q_H} (hd : 1 ≤ d) (h : WP (d - 1) 113 0 [.ref 82, vI z1] [] X (fun r1 X1 => r1 = r ∧ X1 = X')) : Sp d 113 [.ref 82, vI z1] X r X' := Sp.of1 hd (vs := [.ref 82, vI z1]) (ls := [.ref 82, vI z1]) (by rfl) (by rfl) h
theorem E113 {d : Nat} {X : q_H} {z1 : Int} {Q : Option Value → q_H → Prop} (hd : 1 ≤ d) (h : WP (d - 1) 113 0 [.ref 82, vI z1] [] X Q) : ∃ r X', Sp d 113 [.ref 82, vI z1] X r X' ∧ Q r X' := Sp.of2 hd (vs := [.ref 82, vI z1]) (ls := [.ref 82, vI z1]) (by rfl) (by rfl) h
theorem s113_0 {l1 : Value}  : WP d 113 0 [.ref 82, l1] (st) X Q = WP d 113 1 [.ref 82, l1] (.ref 82 :: st) X Q := w_aload_n (by rfl) rfl (by decide)
theorem s113_1 {l0 : Value} {z1 : Int} : WP d 113 1 [l0, vI z1] (st) X Q = WP d 113 2 [l0, vI z1] (vI z1 :: st) X Q := w_iload_n (by rfl) rfl
theorem s113_2 {l0 l1 : Value}  : WP d 113 2 [l0, l1] (st) X Q = WP d 113 3 [l0, l1] (vI (0) :: st) X Q := w_iconst (by rfl)
theorem s113_3 {l1 : Value}  : WP d 113 3 [.ref 82, l1] (st) X Q = WP d 113 4 [.ref 82, l1] (.ref 82 :: st) X Q := w_aload_n (by rfl) rfl (by decide)
theorem s113_4 {l0 l1 : Value} (hN : 82 < N) : WP d 113 4 [l0, l1] (.ref 82 :: st) (N, L, M) Q = WP d 113 7 [l0, l1] (M 82 0 :: st) (N, L, M) Q := w_getf (by rfl) (by rfl) hN (by decide) (by rfl)
theorem s113_7 {l0 l1 : Value}  : WP d 113 7 [l0, l1] (st) X Q = WP d 113 8 [l0, l1] (vI (1) :: st) X Q := w_iconst (by rfl)
theorem s113_8 {l0 l1 : Value} {z1 : Int} {z2 : Int} : WP d 113 8 [l0, l1] (vI z2 :: vI z1 :: st) X Q = WP d 113 9 [l0, l1] (vI (z1 - z2) :: st) X Q := w_isub (by rfl)
theorem c113_9 {l0 l1 : Value} {z1 : Int} {z2 : Int} {z3 : Int} {r : Int} {X' : q_H} (hN : 82 < N) (hS : Sp d 109 [.ref 82, vI z1, vI z2, vI z3] (N, L, M) (some (vI r)) X') : WP d 113 9 [l0, l1] (vI z3 :: vI z2 :: vI z1 :: .ref 82 :: []) (N, L, M) Q = WP d 113 12 [l0, l1] (vI r :: []) X' Q := w_callv (vs := [vI z1, vI z2, vI z3]) (by rfl) (by rfl) rfl (Nat.le_of_ble_eq_true rfl) (kd := 9) (by rfl) (by decide) (Or.inl hN) (by rfl) hS
theorem s113_12 {l0 l1 : Value} {z1 : Int} (hz : z1 = 0 ∨ z1 = 1) : WP d 113 12 [l0, l1] (vI z1 :: []) X Q = Q (some (vI z1)) X := w_iretz (by rfl) (by rfl) (nb_bool hz)
theorem s113_12b {l0 l1 : Value} {P : Prop} [Decidable P] : WP d 113 12 [l0, l1] (vI (bI P) :: []) X Q = Q (some (vI (bI P))) X := w_iretz (by rfl) (by rfl) (nb_bool (bI_01 P))
/-! 114 BellsThatEatModel.isFood -/
theorem e114 {d : Nat} {X : q_H} {z1 : Int} {r : Option Value} {X' : q_H} (hd : 1 ≤ d) (h : WP (d - 1) 114 0 [.ref 82, vI z1] [] X (fun r1 X1 => r1 = r ∧ X1 = X')) : Sp d 114 [.ref 82, vI z1] X r X' := Sp.of1 hd (vs := [.ref 82, vI z1]) (ls := [.ref 82, vI z1]) (by rfl) (by rfl) h
theorem E114 {d : Nat} {X : q_H} {z1 : Int} {Q : Option Value → q_H → Prop} (hd : 1 ≤ d) (h : WP (d - 1) 114 0 [.ref 82, vI z1] [] X Q) : ∃ r X', Sp d 114 [.ref 82, vI z1] X r X' ∧ Q r X' := Sp.of2 hd (vs := [.ref 82, vI z1]) (ls := [.ref 82, vI z1]) (by rfl) (by rfl) h
theorem s114_0 {l1 : Value}  : WP d 114 0 [.ref 82, l1] (st) X Q = WP d 114 1 [.ref 82, l1] (.ref 82 :: st) X Q := w_aload_n (by rfl) rfl (by decide)
theorem s114_1 {l0 : Value} {z1 : Int} : WP d 114 1 [l0, vI z1] (st) X Q = WP d 114 2 [l0, vI z1] (vI z1 :: st) X Q := w_iload_n (by rfl) rfl
theorem s114_2 {l0 l1 : Value}  : WP d 114 2 [l0, l1] (st) X Q = WP d 114 3 [l0, l1] (vI (0) :: st) X Q := w_iconst (by rfl)
theorem s114_3 {l0 l1 : Value}  : WP d 114 3 [l0, l1] (st) X Q = WP d 114 4 [l0, l1] (vI (3) :: st) X Q := w_iconst (by rfl)
theorem c114_4 {l0 l1 : Value} {z1 : Int} {z2 : Int} {z3 : Int} {r : Int} {X' : q_H} (hN : 82 < N) (hS : Sp d 109 [.ref 82, vI z1, vI z2, vI z3] (N, L, M) (some (vI r)) X') : WP d 114 4 [l0, l1] (vI z3 :: vI z2 :: vI z1 :: .ref 82 :: []) (N, L, M) Q = WP d 114 7 [l0, l1] (vI r :: []) X' Q := w_callv (vs := [vI z1, vI z2, vI z3]) (by rfl) (by rfl) rfl (Nat.le_of_ble_eq_true rfl) (kd := 9) (by rfl) (by decide) (Or.inl hN) (by rfl) hS
theorem s114_7 {l0 l1 : Value} {z1 : Int} (hz : z1 = 0 ∨ z1 = 1) : WP d 114 7 [l0, l1] (vI z1 :: []) X Q = Q (some (vI z1)) X := w_iretz (by rfl) (by rfl) (nb_bool hz)
theorem s114_7b {l0 l1 : Value} {P : Prop} [Decidable P] : WP d 114 7 [l0, l1] (vI (bI P) :: []) X Q = Q (some (vI (bI P))) X := w_iretz (by rfl) (by rfl) (nb_bool (bI_01 P))
/-! 115 BellsThatEatModel.isFed -/
theorem e115 {d : Nat} {X : q_H} {z1 : Int} {r : Option Value} {X' : q_H} (hd : 1 ≤ d) (h : WP (d - 1) 115 0 [.ref 82, vI z1] [] X (fun r1 X1 => r1 = r ∧ X1 = X')) : Sp d 115 [.ref 82, vI z1] X r X' := Sp.of1 hd (vs := [.ref 82, vI z1]) (ls := [.ref 82, vI z1]) (by rfl) (by rfl) h
theorem E115 {d : Nat} {X : q_H} {z1 : Int} {Q : Option Value → q_H → Prop} (hd : 1 ≤ d) (h : WP (d - 1) 115 0 [.ref 82, vI z1] [] X Q) : ∃ r X', Sp d 115 [.ref 82, vI z1] X r X' ∧ Q r X' := Sp.of2 hd (vs := [.ref 82, vI z1]) (ls := [.ref 82, vI z1]) (by rfl) (by rfl) h
theorem s115_0 {l1 : Value}  : WP d 115 0 [.ref 82, l1] (st) X Q = WP d 115 1 [.ref 82, l1] (.ref 82 :: st) X Q := w_aload_n (by rfl) rfl (by decide)
theorem s115_1 {l0 : Value} {z1 : Int} : WP d 115 1 [l0, vI z1] (st) X Q = WP d 115 2 [l0, vI z1] (vI z1 :: st) X Q := w_iload_n (by rfl) rfl
theorem s115_2 {l0 l1 : Value}  : WP d 115 2 [l0, l1] (st) X Q = WP d 115 3 [l0, l1] (vI (0) :: st) X Q := w_iconst (by rfl)
theorem s115_3 {l0 l1 : Value}  : WP d 115 3 [l0, l1] (st) X Q = WP d 115 5 [l0, l1] (vI (99) :: st) X Q := w_bipush (by rfl) (by decide)
theorem c115_5 {l0 l1 : Value} {z1 : Int} {z2 : Int} {z3 : Int} {r : Int} {X' : q_H} (hN : 82 < N) (hS : Sp d 109 [.ref 82, vI z1, vI z2, vI z3] (N, L, M) (some (vI r)) X') : WP d 115 5 [l0, l1] (vI z3 :: vI z2 :: vI z1 :: .ref 82 :: []) (N, L, M) Q = WP d 115 8 [l0, l1] (vI r :: []) X' Q := w_callv (vs := [vI z1, vI z2, vI z3]) (by rfl) (by rfl) rfl (Nat.le_of_ble_eq_true rfl) (kd := 9) (by rfl) (by decide) (Or.inl hN) (by rfl) hS
theorem s115_8 {l0 l1 : Value} {z1 : Int} (hz : z1 = 0 ∨ z1 = 1) : WP d 115 8 [l0, l1] (vI z1 :: []) X Q = Q (some (vI z1)) X := w_iretz (by rfl) (by rfl) (nb_bool hz)
theorem s115_8b {l0 l1 : Value} {P : Prop} [Decidable P] : WP d 115 8 [l0, l1] (vI (bI P) :: []) X Q = Q (some (vI (bI P))) X := w_iretz (by rfl) (by rfl) (nb_bool (bI_01 P))
/-! 116 BellsThatEatModel.isDays -/
theorem e116 {d : Nat} {X : q_H} {z1 : Int} {r : Option Value} {X' : q_H} (hd : 1 ≤ d) (h : WP (d - 1) 116 0 [.ref 82, vI z1] [] X (fun r1 X1 => r1 = r ∧ X1 = X')) : Sp d 116 [.ref 82, vI z1] X r X' := Sp.of1 hd (vs := [.ref 82, vI z1]) (ls := [.ref 82, vI z1]) (by rfl) (by rfl) h
theorem E116 {d : Nat} {X : q_H} {z1 : Int} {Q : Option Value → q_H → Prop} (hd : 1 ≤ d) (h : WP (d - 1) 116 0 [.ref 82, vI z1] [] X Q) : ∃ r X', Sp d 116 [.ref 82, vI z1] X r X' ∧ Q r X' := Sp.of2 hd (vs := [.ref 82, vI z1]) (ls := [.ref 82, vI z1]) (by rfl) (by rfl) h
theorem s116_0 {l1 : Value}  : WP d 116 0 [.ref 82, l1] (st) X Q = WP d 116 1 [.ref 82, l1] (.ref 82 :: st) X Q := w_aload_n (by rfl) rfl (by decide)
theorem s116_1 {l0 : Value} {z1 : Int} : WP d 116 1 [l0, vI z1] (st) X Q = WP d 116 2 [l0, vI z1] (vI z1 :: st) X Q := w_iload_n (by rfl) rfl
theorem s116_2 {l0 l1 : Value}  : WP d 116 2 [l0, l1] (st) X Q = WP d 116 3 [l0, l1] (vI (0) :: st) X Q := w_iconst (by rfl)
theorem s116_3 {l0 l1 : Value}  : WP d 116 3 [l0, l1] (st) X Q = WP d 116 5 [l0, l1] (vI (60) :: st) X Q := w_bipush (by rfl) (by decide)
theorem c116_5 {l0 l1 : Value} {z1 : Int} {z2 : Int} {z3 : Int} {r : Int} {X' : q_H} (hN : 82 < N) (hS : Sp d 109 [.ref 82, vI z1, vI z2, vI z3] (N, L, M) (some (vI r)) X') : WP d 116 5 [l0, l1] (vI z3 :: vI z2 :: vI z1 :: .ref 82 :: []) (N, L, M) Q = WP d 116 8 [l0, l1] (vI r :: []) X' Q := w_callv (vs := [vI z1, vI z2, vI z3]) (by rfl) (by rfl) rfl (Nat.le_of_ble_eq_true rfl) (kd := 9) (by rfl) (by decide) (Or.inl hN) (by rfl) hS
theorem s116_8 {l0 l1 : Value} {z1 : Int} (hz : z1 = 0 ∨ z1 = 1) : WP d 116 8 [l0, l1] (vI z1 :: []) X Q = Q (some (vI z1)) X := w_iretz (by rfl) (by rfl) (nb_bool hz)
theorem s116_8b {l0 l1 : Value} {P : Prop} [Decidable P] : WP d 116 8 [l0, l1] (vI (bI P) :: []) X Q = Q (some (vI (bI P))) X := w_iretz (by rfl) (by rfl) (nb_bool (bI_01 P))
/-! 117 BellsThatEatModel.bell -/
theorem e117 {d : Nat} {X : q_H} {z1 : Int} {z2 : Int} {z3 : Int} {r : Option Value} {X' : q_H} (hd : 1 ≤ d) (h : WP (d - 1) 117 0 [.ref 82, vI z1, vI z2, vI z3, .null] [] X (fun r1 X1 => r1 = r ∧ X1 = X')) : Sp d 117 [.ref 82, vI z1, vI z2, vI z3] X r X' := Sp.of1 hd (vs := [.ref 82, vI z1, vI z2, vI z3]) (ls := [.ref 82, vI z1, vI z2, vI z3, .null]) (by rfl) (by rfl) h
theorem E117 {d : Nat} {X : q_H} {z1 : Int} {z2 : Int} {z3 : Int} {Q : Option Value → q_H → Prop} (hd : 1 ≤ d) (h : WP (d - 1) 117 0 [.ref 82, vI z1, vI z2, vI z3, .null] [] X Q) : ∃ r X', Sp d 117 [.ref 82, vI z1, vI z2, vI z3] X r X' ∧ Q r X' := Sp.of2 hd (vs := [.ref 82, vI z1, vI z2, vI z3]) (ls := [.ref 82, vI z1, vI z2, vI z3, .null]) (by rfl) (by rfl) h
theorem s117_0 {l1 l2 l3 l4 : Value}  : WP d 117 0 [.ref 82, l1, l2, l3, l4] (st) X Q = WP d 117 1 [.ref 82, l1, l2, l3, l4] (.ref 82 :: st) X Q := w_aload_n (by rfl) rfl (by decide)
theorem s117_1 {l0 l2 l3 l4 : Value} {z1 : Int} : WP d 117 1 [l0, vI z1, l2, l3, l4] (st) X Q = WP d 117 2 [l0, vI z1, l2, l3, l4] (vI z1 :: st) X Q := w_iload_n (by rfl) rfl
theorem s117_2 {l0 l1 l2 l3 l4 : Value}  : WP d 117 2 [l0, l1, l2, l3, l4] (st) X Q = WP d 117 3 [l0, l1, l2, l3, l4] (vI (0) :: st) X Q := w_iconst (by rfl)
theorem s117_3 {l0 l1 l2 l3 l4 : Value}  : WP d 117 3 [l0, l1, l2, l3, l4] (st) X Q = WP d 117 5 [l0, l1, l2, l3, l4] (vI (6) :: st) X Q := w_bipush (by rfl) (by decide)
theorem c117_5 {l0 l1 l2 l3 l4 : Value} {z1 : Int} {z2 : Int} {z3 : Int} {r : Int} {X' : q_H} (hN : 82 < N) (hS : Sp d 109 [.ref 82, vI z1, vI z2, vI z3] (N, L, M) (some (vI r)) X') : WP d 117 5 [l0, l1, l2, l3, l4] (vI z3 :: vI z2 :: vI z1 :: .ref 82 :: []) (N, L, M) Q = WP d 117 8 [l0, l1, l2, l3, l4] (vI r :: []) X' Q := w_callv (vs := [vI z1, vI z2, vI z3]) (by rfl) (by rfl) rfl (Nat.le_of_ble_eq_true rfl) (kd := 9) (by rfl) (by decide) (Or.inl hN) (by rfl) hS
theorem s117_8 {l0 l1 l2 l3 l4 : Value} {z1 : Int} (h1 : -2147483648 ≤ z1 ∧ z1 ≤ 2147483647) : WP d 117 8 [l0, l1, l2, l3, l4] (vI z1 :: st) X Q = if z1 = 0 then WP d 117 11 [l0, l1, l2, l3, l4] (st) X Q else WP d 117 13 [l0, l1, l2, l3, l4] (st) X Q := w_ifne (by rfl) (by decide) h1
theorem s117_8b {l0 l1 l2 l3 l4 : Value} {P : Prop} [Decidable P] : WP d 117 8 [l0, l1, l2, l3, l4] (vI (bI P) :: st) X Q = if P then WP d 117 13 [l0, l1, l2, l3, l4] (st) X Q else WP d 117 11 [l0, l1, l2, l3, l4] (st) X Q := w_ifneb (by rfl) (by decide)
theorem s117_11 {l0 l1 l2 l3 l4 : Value}  : WP d 117 11 [l0, l1, l2, l3, l4] (st) X Q = WP d 117 12 [l0, l1, l2, l3, l4] (vI (-1) :: st) X Q := w_iconst (by rfl)
theorem s117_12 {l0 l1 l2 l3 l4 : Value} {z1 : Int} : WP d 117 12 [l0, l1, l2, l3, l4] (vI z1 :: []) X Q = Q (some (vI z1)) X := w_ireti (by rfl) (by rfl)
theorem s117_13 {l1 l2 l3 l4 : Value}  : WP d 117 13 [.ref 82, l1, l2, l3, l4] (st) X Q = WP d 117 14 [.ref 82, l1, l2, l3, l4] (.ref 82 :: st) X Q := w_aload_n (by rfl) rfl (by decide)
theorem s117_14 {l0 l1 l3 l4 : Value} {z1 : Int} : WP d 117 14 [l0, l1, vI z1, l3, l4] (st) X Q = WP d 117 15 [l0, l1, vI z1, l3, l4] (vI z1 :: st) X Q := w_iload_n (by rfl) rfl
theorem s117_15 {l0 l1 l2 l3 l4 : Value}  : WP d 117 15 [l0, l1, l2, l3, l4] (st) X Q = WP d 117 16 [l0, l1, l2, l3, l4] (vI (0) :: st) X Q := w_iconst (by rfl)
theorem s117_16 {l0 l1 l2 l3 l4 : Value}  : WP d 117 16 [l0, l1, l2, l3, l4] (st) X Q = WP d 117 18 [l0, l1, l2, l3, l4] (vI (9) :: st) X Q := w_bipush (by rfl) (by decide)
theorem c117_18 {l0 l1 l2 l3 l4 : Value} {z1 : Int} {z2 : Int} {z3 : Int} {r : Int} {X' : q_H} (hN : 82 < N) (hS : Sp d 109 [.ref 82, vI z1, vI z2, vI z3] (N, L, M) (some (vI r)) X') : WP d 117 18 [l0, l1, l2, l3, l4] (vI z3 :: vI z2 :: vI z1 :: .ref 82 :: []) (N, L, M) Q = WP d 117 21 [l0, l1, l2, l3, l4] (vI r :: []) X' Q := w_callv (vs := [vI z1, vI z2, vI z3]) (by rfl) (by rfl) rfl (Nat.le_of_ble_eq_true rfl) (kd := 9) (by rfl) (by decide) (Or.inl hN) (by rfl) hS
theorem s117_21 {l0 l1 l2 l3 l4 : Value} {z1 : Int} (h1 : -2147483648 ≤ z1 ∧ z1 ≤ 2147483647) : WP d 117 21 [l0, l1, l2, l3, l4] (vI z1 :: st) X Q = if z1 = 0 then WP d 117 32 [l0, l1, l2, l3, l4] (st) X Q else WP d 117 24 [l0, l1, l2, l3, l4] (st) X Q := w_ifeq (by rfl) (by decide) h1
theorem s117_21b {l0 l1 l2 l3 l4 : Value} {P : Prop} [Decidable P] : WP d 117 21 [l0, l1, l2, l3, l4] (vI (bI P) :: st) X Q = if P then WP d 117 24 [l0, l1, l2, l3, l4] (st) X Q else WP d 117 32 [l0, l1, l2, l3, l4] (st) X Q := w_ifeqb (by rfl) (by decide)
theorem s117_24 {l1 l2 l3 l4 : Value}  : WP d 117 24 [.ref 82, l1, l2, l3, l4] (st) X Q = WP d 117 25 [.ref 82, l1, l2, l3, l4] (.ref 82 :: st) X Q := w_aload_n (by rfl) rfl (by decide)
theorem s117_25 {l0 l1 l2 l4 : Value} {z1 : Int} : WP d 117 25 [l0, l1, l2, vI z1, l4] (st) X Q = WP d 117 26 [l0, l1, l2, vI z1, l4] (vI z1 :: st) X Q := w_iload_n (by rfl) rfl
theorem c117_26 {l0 l1 l2 l3 l4 : Value} {z1 : Int} {r : Int} {X' : q_H} (hN : 82 < N) (hS : Sp d 115 [.ref 82, vI z1] (N, L, M) (some (vI r)) X') : WP d 117 26 [l0, l1, l2, l3, l4] (vI z1 :: .ref 82 :: []) (N, L, M) Q = WP d 117 29 [l0, l1, l2, l3, l4] (vI r :: []) X' Q := w_callv (vs := [vI z1]) (by rfl) (by rfl) rfl (Nat.le_of_ble_eq_true rfl) (kd := 9) (by rfl) (by decide) (Or.inl hN) (by rfl) hS
theorem s117_29 {l0 l1 l2 l3 l4 : Value} {z1 : Int} (h1 : -2147483648 ≤ z1 ∧ z1 ≤ 2147483647) : WP d 117 29 [l0, l1, l2, l3, l4] (vI z1 :: st) X Q = if z1 = 0 then WP d 117 32 [l0, l1, l2, l3, l4] (st) X Q else WP d 117 35 [l0, l1, l2, l3, l4] (st) X Q := w_ifne (by rfl) (by decide) h1
theorem s117_29b {l0 l1 l2 l3 l4 : Value} {P : Prop} [Decidable P] : WP d 117 29 [l0, l1, l2, l3, l4] (vI (bI P) :: st) X Q = if P then WP d 117 35 [l0, l1, l2, l3, l4] (st) X Q else WP d 117 32 [l0, l1, l2, l3, l4] (st) X Q := w_ifneb (by rfl) (by decide)
theorem s117_32 {l0 l1 l2 l3 l4 : Value}  : WP d 117 32 [l0, l1, l2, l3, l4] (st) X Q = WP d 117 34 [l0, l1, l2, l3, l4] (vI (-2) :: st) X Q := w_bipush (by rfl) (by decide)
theorem s117_34 {l0 l1 l2 l3 l4 : Value} {z1 : Int} : WP d 117 34 [l0, l1, l2, l3, l4] (vI z1 :: []) X Q = Q (some (vI z1)) X := w_ireti (by rfl) (by rfl)
theorem s117_35 {l1 l2 l3 l4 : Value}  : WP d 117 35 [.ref 82, l1, l2, l3, l4] (st) X Q = WP d 117 36 [.ref 82, l1, l2, l3, l4] (.ref 82 :: st) X Q := w_aload_n (by rfl) rfl (by decide)
theorem s117_36 {l0 l1 l2 l3 l4 : Value} (hN : 82 < N) : WP d 117 36 [l0, l1, l2, l3, l4] (.ref 82 :: st) (N, L, M) Q = WP d 117 39 [l0, l1, l2, l3, l4] (M 82 0 :: st) (N, L, M) Q := w_getf (by rfl) (by rfl) hN (by decide) (by rfl)
theorem s117_39 {l0 l1 l2 l3 l4 : Value}  : WP d 117 39 [l0, l1, l2, l3, l4] (st) X Q = WP d 117 41 [l0, l1, l2, l3, l4] (vI (6) :: st) X Q := w_bipush (by rfl) (by decide)
theorem s117_41 {l0 l1 l2 l3 l4 : Value} {z1 : Int} {z2 : Int} (h1 : -2147483648 ≤ z1 ∧ z1 ≤ 2147483647) (h2 : -2147483648 ≤ z2 ∧ z2 ≤ 2147483647) : WP d 117 41 [l0, l1, l2, l3, l4] (vI z2 :: vI z1 :: st) X Q = if z1 = z2 then WP d 117 44 [l0, l1, l2, l3, l4] (st) X Q else WP d 117 47 [l0, l1, l2, l3, l4] (st) X Q := w_icmpne (by rfl) (by decide) h1 h2
theorem s117_41b {l0 l1 l2 l3 l4 : Value} {P R : Prop} [Decidable P] [Decidable R] : WP d 117 41 [l0, l1, l2, l3, l4] (vI (bI R) :: vI (bI P) :: st) X Q = if (P ↔ R) then WP d 117 44 [l0, l1, l2, l3, l4] (st) X Q else WP d 117 47 [l0, l1, l2, l3, l4] (st) X Q := w_icmpneb (by rfl) (by decide)
theorem s117_44 {l0 l1 l2 l3 l4 : Value}  : WP d 117 44 [l0, l1, l2, l3, l4] (st) X Q = WP d 117 46 [l0, l1, l2, l3, l4] (vI (-4) :: st) X Q := w_bipush (by rfl) (by decide)
theorem s117_46 {l0 l1 l2 l3 l4 : Value} {z1 : Int} : WP d 117 46 [l0, l1, l2, l3, l4] (vI z1 :: []) X Q = Q (some (vI z1)) X := w_ireti (by rfl) (by rfl)
theorem s117_47 {l1 l2 l3 l4 : Value}  : WP d 117 47 [.ref 82, l1, l2, l3, l4] (st) X Q = WP d 117 48 [.ref 82, l1, l2, l3, l4] (.ref 82 :: st) X Q := w_aload_n (by rfl) rfl (by decide)
theorem s117_48 {l0 l1 l2 l3 l4 : Value} (hN : 82 < N) : WP d 117 48 [l0, l1, l2, l3, l4] (.ref 82 :: st) (N, L, M) Q = WP d 117 51 [l0, l1, l2, l3, l4] (M 82 3 :: st) (N, L, M) Q := w_getf (by rfl) (by rfl) hN (by decide) (by rfl)
theorem s117_51 {l1 l2 l3 l4 : Value}  : WP d 117 51 [.ref 82, l1, l2, l3, l4] (st) X Q = WP d 117 52 [.ref 82, l1, l2, l3, l4] (.ref 82 :: st) X Q := w_aload_n (by rfl) rfl (by decide)
theorem s117_52 {l0 l1 l2 l3 l4 : Value} (hN : 82 < N) : WP d 117 52 [l0, l1, l2, l3, l4] (.ref 82 :: st) (N, L, M) Q = WP d 117 55 [l0, l1, l2, l3, l4] (M 82 0 :: st) (N, L, M) Q := w_getf (by rfl) (by rfl) hN (by decide) (by rfl)
theorem s117_55 {l0 l2 l3 l4 : Value} {z1 : Int} : WP d 117 55 [l0, vI z1, l2, l3, l4] (st) X Q = WP d 117 56 [l0, vI z1, l2, l3, l4] (vI z1 :: st) X Q := w_iload_n (by rfl) rfl
theorem s117_56 {l0 l1 l2 l3 l4 : Value} {j1 : Int} {z2 : Int} (hj : 0 ≤ j1 ∧ j1 < 6) (hN : 83 < N) : WP d 117 56 [l0, l1, l2, l3, l4] (vI z2 :: vI j1 :: .ref 83 :: st) (N, L, M) Q = WP d 117 57 [l0, l1, l2, l3, l4] (st) (N, L, up M 83 j1.toNat (vI z2)) Q := w_iast (by rfl) (m := 6) (by rfl) hN hj (by decide)
theorem s117_57 {l1 l2 l3 l4 : Value}  : WP d 117 57 [.ref 82, l1, l2, l3, l4] (st) X Q = WP d 117 58 [.ref 82, l1, l2, l3, l4] (.ref 82 :: st) X Q := w_aload_n (by rfl) rfl (by decide)
theorem s117_58 {l0 l1 l2 l3 l4 : Value} (hN : 82 < N) : WP d 117 58 [l0, l1, l2, l3, l4] (.ref 82 :: st) (N, L, M) Q = WP d 117 61 [l0, l1, l2, l3, l4] (M 82 4 :: st) (N, L, M) Q := w_getf (by rfl) (by rfl) hN (by decide) (by rfl)
theorem s117_61 {l1 l2 l3 l4 : Value}  : WP d 117 61 [.ref 82, l1, l2, l3, l4] (st) X Q = WP d 117 62 [.ref 82, l1, l2, l3, l4] (.ref 82 :: st) X Q := w_aload_n (by rfl) rfl (by decide)
theorem s117_62 {l0 l1 l2 l3 l4 : Value} (hN : 82 < N) : WP d 117 62 [l0, l1, l2, l3, l4] (.ref 82 :: st) (N, L, M) Q = WP d 117 65 [l0, l1, l2, l3, l4] (M 82 0 :: st) (N, L, M) Q := w_getf (by rfl) (by rfl) hN (by decide) (by rfl)
theorem s117_65 {l0 l1 l3 l4 : Value} {z1 : Int} : WP d 117 65 [l0, l1, vI z1, l3, l4] (st) X Q = WP d 117 66 [l0, l1, vI z1, l3, l4] (vI z1 :: st) X Q := w_iload_n (by rfl) rfl
theorem s117_66 {l0 l1 l2 l3 l4 : Value} {j1 : Int} {z2 : Int} (hj : 0 ≤ j1 ∧ j1 < 6) (hN : 84 < N) : WP d 117 66 [l0, l1, l2, l3, l4] (vI z2 :: vI j1 :: .ref 84 :: st) (N, L, M) Q = WP d 117 67 [l0, l1, l2, l3, l4] (st) (N, L, up M 84 j1.toNat (vI z2)) Q := w_iast (by rfl) (m := 6) (by rfl) hN hj (by decide)
theorem s117_67 {l1 l2 l3 l4 : Value}  : WP d 117 67 [.ref 82, l1, l2, l3, l4] (st) X Q = WP d 117 68 [.ref 82, l1, l2, l3, l4] (.ref 82 :: st) X Q := w_aload_n (by rfl) rfl (by decide)
theorem s117_68 {l0 l1 l2 l3 l4 : Value} (hN : 82 < N) : WP d 117 68 [l0, l1, l2, l3, l4] (.ref 82 :: st) (N, L, M) Q = WP d 117 71 [l0, l1, l2, l3, l4] (M 82 5 :: st) (N, L, M) Q := w_getf (by rfl) (by rfl) hN (by decide) (by rfl)
theorem s117_71 {l1 l2 l3 l4 : Value}  : WP d 117 71 [.ref 82, l1, l2, l3, l4] (st) X Q = WP d 117 72 [.ref 82, l1, l2, l3, l4] (.ref 82 :: st) X Q := w_aload_n (by rfl) rfl (by decide)
theorem s117_72 {l0 l1 l2 l3 l4 : Value} (hN : 82 < N) : WP d 117 72 [l0, l1, l2, l3, l4] (.ref 82 :: st) (N, L, M) Q = WP d 117 75 [l0, l1, l2, l3, l4] (M 82 0 :: st) (N, L, M) Q := w_getf (by rfl) (by rfl) hN (by decide) (by rfl)
theorem s117_75 {l0 l1 l2 l4 : Value} {z1 : Int} : WP d 117 75 [l0, l1, l2, vI z1, l4] (st) X Q = WP d 117 76 [l0, l1, l2, vI z1, l4] (vI z1 :: st) X Q := w_iload_n (by rfl) rfl
theorem s117_76 {l0 l1 l2 l3 l4 : Value} {j1 : Int} {z2 : Int} (hj : 0 ≤ j1 ∧ j1 < 6) (hN : 85 < N) : WP d 117 76 [l0, l1, l2, l3, l4] (vI z2 :: vI j1 :: .ref 85 :: st) (N, L, M) Q = WP d 117 77 [l0, l1, l2, l3, l4] (st) (N, L, up M 85 j1.toNat (vI z2)) Q := w_iast (by rfl) (m := 6) (by rfl) hN hj (by decide)
theorem s117_77 {l0 l1 l2 l3 l4 : Value}  : WP d 117 77 [l0, l1, l2, l3, l4] (st) X Q = WP d 117 78 [l0, l1, l2, l3, l4] (vI (0) :: st) X Q := w_iconst (by rfl)
theorem s117_78 {l0 l1 l2 l4 : Value} {z1 : Int} {z2 : Int} : WP d 117 78 [l0, l1, l2, vI z1, l4] (vI z2 :: st) X Q = WP d 117 80 [l0, l1, l2, vI z1, vI z2] (st) X Q := w_istore (by rfl) (q_okb_s rfl rfl) (Nat.le_of_ble_eq_true rfl) rfl
theorem s117_80 {l0 l1 l2 l3 : Value} {z1 : Int} : WP d 117 80 [l0, l1, l2, l3, vI z1] (st) X Q = WP d 117 82 [l0, l1, l2, l3, vI z1] (vI z1 :: st) X Q := w_iload (by rfl) rfl
theorem s117_82 {l0 l1 l2 l3 l4 : Value}  : WP d 117 82 [l0, l1, l2, l3, l4] (st) X Q = WP d 117 83 [l0, l1, l2, l3, l4] (vI (4) :: st) X Q := w_iconst (by rfl)
theorem s117_83 {l0 l1 l2 l3 l4 : Value} {z1 : Int} {z2 : Int} (h1 : -2147483648 ≤ z1 ∧ z1 ≤ 2147483647) (h2 : -2147483648 ≤ z2 ∧ z2 ≤ 2147483647) : WP d 117 83 [l0, l1, l2, l3, l4] (vI z2 :: vI z1 :: st) X Q = if z1 < z2 then WP d 117 86 [l0, l1, l2, l3, l4] (st) X Q else WP d 117 107 [l0, l1, l2, l3, l4] (st) X Q := w_icmpge (by rfl) (by decide) h1 h2
theorem s117_86 {l1 l2 l3 l4 : Value}  : WP d 117 86 [.ref 82, l1, l2, l3, l4] (st) X Q = WP d 117 87 [.ref 82, l1, l2, l3, l4] (.ref 82 :: st) X Q := w_aload_n (by rfl) rfl (by decide)
theorem s117_87 {l0 l1 l2 l3 l4 : Value} (hN : 82 < N) : WP d 117 87 [l0, l1, l2, l3, l4] (.ref 82 :: st) (N, L, M) Q = WP d 117 90 [l0, l1, l2, l3, l4] (M 82 6 :: st) (N, L, M) Q := w_getf (by rfl) (by rfl) hN (by decide) (by rfl)
theorem s117_90 {l0 l1 l2 l3 l4 : Value}  : WP d 117 90 [l0, l1, l2, l3, l4] (st) X Q = WP d 117 91 [l0, l1, l2, l3, l4] (vI (4) :: st) X Q := w_iconst (by rfl)
theorem s117_91 {l1 l2 l3 l4 : Value}  : WP d 117 91 [.ref 82, l1, l2, l3, l4] (st) X Q = WP d 117 92 [.ref 82, l1, l2, l3, l4] (.ref 82 :: st) X Q := w_aload_n (by rfl) rfl (by decide)
theorem s117_92 {l0 l1 l2 l3 l4 : Value} (hN : 82 < N) : WP d 117 92 [l0, l1, l2, l3, l4] (.ref 82 :: st) (N, L, M) Q = WP d 117 95 [l0, l1, l2, l3, l4] (M 82 0 :: st) (N, L, M) Q := w_getf (by rfl) (by rfl) hN (by decide) (by rfl)
theorem s117_95 {l0 l1 l2 l3 l4 : Value} {z1 : Int} {z2 : Int} : WP d 117 95 [l0, l1, l2, l3, l4] (vI z2 :: vI z1 :: st) X Q = WP d 117 96 [l0, l1, l2, l3, l4] (vI (z1 * z2) :: st) X Q := w_imul (by rfl)
theorem s117_96 {l0 l1 l2 l3 : Value} {z1 : Int} : WP d 117 96 [l0, l1, l2, l3, vI z1] (st) X Q = WP d 117 98 [l0, l1, l2, l3, vI z1] (vI z1 :: st) X Q := w_iload (by rfl) rfl
theorem s117_98 {l0 l1 l2 l3 l4 : Value} {z1 : Int} {z2 : Int} : WP d 117 98 [l0, l1, l2, l3, l4] (vI z2 :: vI z1 :: st) X Q = WP d 117 99 [l0, l1, l2, l3, l4] (vI (z1 + z2) :: st) X Q := w_iadd (by rfl)
theorem s117_99 {l0 l1 l2 l3 l4 : Value}  : WP d 117 99 [l0, l1, l2, l3, l4] (st) X Q = WP d 117 100 [l0, l1, l2, l3, l4] (vI (0) :: st) X Q := w_iconst (by rfl)
theorem s117_100 {l0 l1 l2 l3 l4 : Value} {j1 : Int} {z2 : Int} (hj : 0 ≤ j1 ∧ j1 < 24) (hN : 86 < N) : WP d 117 100 [l0, l1, l2, l3, l4] (vI z2 :: vI j1 :: .ref 86 :: st) (N, L, M) Q = WP d 117 101 [l0, l1, l2, l3, l4] (st) (N, L, up M 86 j1.toNat (vI z2)) Q := w_iast (by rfl) (m := 24) (by rfl) hN hj (by decide)
theorem s117_101 {l0 l1 l2 : Value} {z1 : Int} {z2 : Int} : WP d 117 101 [l0, l1, l2, vI z2, vI z1] (st) X Q = WP d 117 104 [l0, l1, l2, vI z2, vI (z1 + 1)] (st) X Q := w_iinc (by rfl) rfl (q_okb_s rfl rfl) (Nat.le_of_ble_eq_true rfl) rfl
theorem s117_104 {l0 l1 l2 l3 l4 : Value}  : WP d 117 104 [l0, l1, l2, l3, l4] (st) X Q = WP d 117 80 [l0, l1, l2, l3, l4] (st) X Q := w_goto (by rfl) (by decide)
theorem s117_107 {l1 l2 l3 l4 : Value}  : WP d 117 107 [.ref 82, l1, l2, l3, l4] (st) X Q = WP d 117 108 [.ref 82, l1, l2, l3, l4] (.ref 82 :: st) X Q := w_aload_n (by rfl) rfl (by decide)
theorem s117_108 {l0 l1 l2 l3 l4 : Value} {a1 : Nat} : WP d 117 108 [l0, l1, l2, l3, l4] (.ref a1 :: st) X Q = WP d 117 109 [l0, l1, l2, l3, l4] (.ref a1 :: .ref a1 :: st) X Q := w_dup (by rfl) rfl
theorem s117_109 {l0 l1 l2 l3 l4 : Value} (hN : 82 < N) : WP d 117 109 [l0, l1, l2, l3, l4] (.ref 82 :: st) (N, L, M) Q = WP d 117 112 [l0, l1, l2, l3, l4] (M 82 0 :: st) (N, L, M) Q := w_getf (by rfl) (by rfl) hN (by decide) (by rfl)
theorem s117_112 {l0 l1 l2 l3 l4 : Value}  : WP d 117 112 [l0, l1, l2, l3, l4] (st) X Q = WP d 117 113 [l0, l1, l2, l3, l4] (vI (1) :: st) X Q := w_iconst (by rfl)
theorem s117_113 {l0 l1 l2 l3 l4 : Value} {z1 : Int} {z2 : Int} : WP d 117 113 [l0, l1, l2, l3, l4] (vI z2 :: vI z1 :: st) X Q = WP d 117 114 [l0, l1, l2, l3, l4] (vI (z1 + z2) :: st) X Q := w_iadd (by rfl)
theorem s117_114 {l0 l1 l2 l3 l4 : Value} {z1 : Int} (hN : 82 < N) : WP d 117 114 [l0, l1, l2, l3, l4] (vI z1 :: .ref 82 :: st) (N, L, M) Q = WP d 117 117 [l0, l1, l2, l3, l4] (st) (N, L, up M 82 0 (vI z1)) Q := w_putf (ci := 9) (by rfl) (by rfl) (by decide) hN (by rfl) (q_fit_int rfl _)
theorem s117_117 {l1 l2 l3 l4 : Value}  : WP d 117 117 [.ref 82, l1, l2, l3, l4] (st) X Q = WP d 117 118 [.ref 82, l1, l2, l3, l4] (.ref 82 :: st) X Q := w_aload_n (by rfl) rfl (by decide)
theorem s117_118 {l0 l1 l2 l3 l4 : Value} (hN : 82 < N) : WP d 117 118 [l0, l1, l2, l3, l4] (.ref 82 :: st) (N, L, M) Q = WP d 117 121 [l0, l1, l2, l3, l4] (M 82 0 :: st) (N, L, M) Q := w_getf (by rfl) (by rfl) hN (by decide) (by rfl)
theorem s117_121 {l0 l1 l2 l3 l4 : Value}  : WP d 117 121 [l0, l1, l2, l3, l4] (st) X Q = WP d 117 122 [l0, l1, l2, l3, l4] (vI (1) :: st) X Q := w_iconst (by rfl)
theorem s117_122 {l0 l1 l2 l3 l4 : Value} {z1 : Int} {z2 : Int} : WP d 117 122 [l0, l1, l2, l3, l4] (vI z2 :: vI z1 :: st) X Q = WP d 117 123 [l0, l1, l2, l3, l4] (vI (z1 - z2) :: st) X Q := w_isub (by rfl)
theorem s117_123 {l0 l1 l2 l3 l4 : Value} {z1 : Int} : WP d 117 123 [l0, l1, l2, l3, l4] (vI z1 :: []) X Q = Q (some (vI z1)) X := w_ireti (by rfl) (by rfl)
/-! 118 BellsThatEatModel.fill -/
theorem e118 {d : Nat} {X : q_H} {z1 : Int} {z2 : Int} {r : Option Value} {X' : q_H} (hd : 1 ≤ d) (h : WP (d - 1) 118 0 [.ref 82, vI z1, vI z2, .null] [] X (fun r1 X1 => r1 = r ∧ X1 = X')) : Sp d 118 [.ref 82, vI z1, vI z2] X r X' := Sp.of1 hd (vs := [.ref 82, vI z1, vI z2]) (ls := [.ref 82, vI z1, vI z2, .null]) (by rfl) (by rfl) h
theorem E118 {d : Nat} {X : q_H} {z1 : Int} {z2 : Int} {Q : Option Value → q_H → Prop} (hd : 1 ≤ d) (h : WP (d - 1) 118 0 [.ref 82, vI z1, vI z2, .null] [] X Q) : ∃ r X', Sp d 118 [.ref 82, vI z1, vI z2] X r X' ∧ Q r X' := Sp.of2 hd (vs := [.ref 82, vI z1, vI z2]) (ls := [.ref 82, vI z1, vI z2, .null]) (by rfl) (by rfl) h
theorem s118_0 {l1 l2 l3 : Value}  : WP d 118 0 [.ref 82, l1, l2, l3] (st) X Q = WP d 118 1 [.ref 82, l1, l2, l3] (.ref 82 :: st) X Q := w_aload_n (by rfl) rfl (by decide)
theorem s118_1 {l0 l2 l3 : Value} {z1 : Int} : WP d 118 1 [l0, vI z1, l2, l3] (st) X Q = WP d 118 2 [l0, vI z1, l2, l3] (vI z1 :: st) X Q := w_iload_n (by rfl) rfl
theorem c118_2 {l0 l1 l2 l3 : Value} {z1 : Int} {r : Int} {X' : q_H} (hN : 82 < N) (hS : Sp d 113 [.ref 82, vI z1] (N, L, M) (some (vI r)) X') : WP d 118 2 [l0, l1, l2, l3] (vI z1 :: .ref 82 :: []) (N, L, M) Q = WP d 118 5 [l0, l1, l2, l3] (vI r :: []) X' Q := w_callv (vs := [vI z1]) (by rfl) (by rfl) rfl (Nat.le_of_ble_eq_true rfl) (kd := 9) (by rfl) (by decide) (Or.inl hN) (by rfl) hS
theorem s118_5 {l0 l1 l2 l3 : Value} {z1 : Int} (h1 : -2147483648 ≤ z1 ∧ z1 ≤ 2147483647) : WP d 118 5 [l0, l1, l2, l3] (vI z1 :: st) X Q = if z1 = 0 then WP d 118 8 [l0, l1, l2, l3] (st) X Q else WP d 118 10 [l0, l1, l2, l3] (st) X Q := w_ifne (by rfl) (by decide) h1
theorem s118_5b {l0 l1 l2 l3 : Value} {P : Prop} [Decidable P] : WP d 118 5 [l0, l1, l2, l3] (vI (bI P) :: st) X Q = if P then WP d 118 10 [l0, l1, l2, l3] (st) X Q else WP d 118 8 [l0, l1, l2, l3] (st) X Q := w_ifneb (by rfl) (by decide)
theorem s118_8 {l0 l1 l2 l3 : Value}  : WP d 118 8 [l0, l1, l2, l3] (st) X Q = WP d 118 9 [l0, l1, l2, l3] (vI (-1) :: st) X Q := w_iconst (by rfl)
theorem s118_9 {l0 l1 l2 l3 : Value} {z1 : Int} : WP d 118 9 [l0, l1, l2, l3] (vI z1 :: []) X Q = Q (some (vI z1)) X := w_ireti (by rfl) (by rfl)
theorem s118_10 {l1 l2 l3 : Value}  : WP d 118 10 [.ref 82, l1, l2, l3] (st) X Q = WP d 118 11 [.ref 82, l1, l2, l3] (.ref 82 :: st) X Q := w_aload_n (by rfl) rfl (by decide)
theorem s118_11 {l0 l1 l3 : Value} {z1 : Int} : WP d 118 11 [l0, l1, vI z1, l3] (st) X Q = WP d 118 12 [l0, l1, vI z1, l3] (vI z1 :: st) X Q := w_iload_n (by rfl) rfl
theorem c118_12 {l0 l1 l2 l3 : Value} {z1 : Int} {r : Int} {X' : q_H} (hN : 82 < N) (hS : Sp d 115 [.ref 82, vI z1] (N, L, M) (some (vI r)) X') : WP d 118 12 [l0, l1, l2, l3] (vI z1 :: .ref 82 :: []) (N, L, M) Q = WP d 118 15 [l0, l1, l2, l3] (vI r :: []) X' Q := w_callv (vs := [vI z1]) (by rfl) (by rfl) rfl (Nat.le_of_ble_eq_true rfl) (kd := 9) (by rfl) (by decide) (Or.inl hN) (by rfl) hS
theorem s118_15 {l0 l1 l2 l3 : Value} {z1 : Int} (h1 : -2147483648 ≤ z1 ∧ z1 ≤ 2147483647) : WP d 118 15 [l0, l1, l2, l3] (vI z1 :: st) X Q = if z1 = 0 then WP d 118 18 [l0, l1, l2, l3] (st) X Q else WP d 118 21 [l0, l1, l2, l3] (st) X Q := w_ifne (by rfl) (by decide) h1
theorem s118_15b {l0 l1 l2 l3 : Value} {P : Prop} [Decidable P] : WP d 118 15 [l0, l1, l2, l3] (vI (bI P) :: st) X Q = if P then WP d 118 21 [l0, l1, l2, l3] (st) X Q else WP d 118 18 [l0, l1, l2, l3] (st) X Q := w_ifneb (by rfl) (by decide)
theorem s118_18 {l0 l1 l2 l3 : Value}  : WP d 118 18 [l0, l1, l2, l3] (st) X Q = WP d 118 20 [l0, l1, l2, l3] (vI (-2) :: st) X Q := w_bipush (by rfl) (by decide)
theorem s118_20 {l0 l1 l2 l3 : Value} {z1 : Int} : WP d 118 20 [l0, l1, l2, l3] (vI z1 :: []) X Q = Q (some (vI z1)) X := w_ireti (by rfl) (by rfl)
theorem s118_21 {l1 l2 l3 : Value}  : WP d 118 21 [.ref 82, l1, l2, l3] (st) X Q = WP d 118 22 [.ref 82, l1, l2, l3] (.ref 82 :: st) X Q := w_aload_n (by rfl) rfl (by decide)
theorem s118_22 {l0 l1 l2 l3 : Value} (hN : 82 < N) : WP d 118 22 [l0, l1, l2, l3] (.ref 82 :: st) (N, L, M) Q = WP d 118 25 [l0, l1, l2, l3] (M 82 5 :: st) (N, L, M) Q := w_getf (by rfl) (by rfl) hN (by decide) (by rfl)
theorem s118_25 {l0 l2 l3 : Value} {z1 : Int} : WP d 118 25 [l0, vI z1, l2, l3] (st) X Q = WP d 118 26 [l0, vI z1, l2, l3] (vI z1 :: st) X Q := w_iload_n (by rfl) rfl
theorem s118_26 {l0 l1 l2 l3 : Value} {j1 : Int} (hj : 0 ≤ j1 ∧ j1 < 6) (hN : 85 < N) : WP d 118 26 [l0, l1, l2, l3] (vI j1 :: .ref 85 :: st) (N, L, M) Q = WP d 118 27 [l0, l1, l2, l3] (M 85 j1.toNat :: st) (N, L, M) Q := w_iald (by rfl) (m := 6) (by rfl) hN (by decide) hj (by decide)
theorem s118_27 {l0 l1 l3 : Value} {z1 : Int} {z2 : Int} : WP d 118 27 [l0, l1, vI z1, l3] (vI z2 :: st) X Q = WP d 118 28 [l0, l1, vI z1, vI z2] (st) X Q := w_istore_n (by rfl) (q_okb_s rfl rfl) (Nat.le_of_ble_eq_true rfl) rfl
theorem s118_28 {l1 l2 l3 : Value}  : WP d 118 28 [.ref 82, l1, l2, l3] (st) X Q = WP d 118 29 [.ref 82, l1, l2, l3] (.ref 82 :: st) X Q := w_aload_n (by rfl) rfl (by decide)
theorem s118_29 {l0 l1 l2 l3 : Value} (hN : 82 < N) : WP d 118 29 [l0, l1, l2, l3] (.ref 82 :: st) (N, L, M) Q = WP d 118 32 [l0, l1, l2, l3] (M 82 5 :: st) (N, L, M) Q := w_getf (by rfl) (by rfl) hN (by decide) (by rfl)
theorem s118_32 {l0 l2 l3 : Value} {z1 : Int} : WP d 118 32 [l0, vI z1, l2, l3] (st) X Q = WP d 118 33 [l0, vI z1, l2, l3] (vI z1 :: st) X Q := w_iload_n (by rfl) rfl
theorem s118_33 {l0 l1 l3 : Value} {z1 : Int} : WP d 118 33 [l0, l1, vI z1, l3] (st) X Q = WP d 118 34 [l0, l1, vI z1, l3] (vI z1 :: st) X Q := w_iload_n (by rfl) rfl
theorem s118_34 {l0 l1 l2 l3 : Value} {j1 : Int} {z2 : Int} (hj : 0 ≤ j1 ∧ j1 < 6) (hN : 85 < N) : WP d 118 34 [l0, l1, l2, l3] (vI z2 :: vI j1 :: .ref 85 :: st) (N, L, M) Q = WP d 118 35 [l0, l1, l2, l3] (st) (N, L, up M 85 j1.toNat (vI z2)) Q := w_iast (by rfl) (m := 6) (by rfl) hN hj (by decide)
theorem s118_35 {l0 l1 l2 : Value} {z1 : Int} : WP d 118 35 [l0, l1, l2, vI z1] (st) X Q = WP d 118 36 [l0, l1, l2, vI z1] (vI z1 :: st) X Q := w_iload_n (by rfl) rfl
theorem s118_36 {l0 l1 l2 l3 : Value} {z1 : Int} : WP d 118 36 [l0, l1, l2, l3] (vI z1 :: []) X Q = Q (some (vI z1)) X := w_ireti (by rfl) (by rfl)
/-! 119 BellsThatEatModel.store -/
theorem e119 {d : Nat} {X : q_H} {z1 : Int} {z2 : Int} {r : Option Value} {X' : q_H} (hd : 1 ≤ d) (h : WP (d - 1) 119 0 [.ref 82, vI z1, vI z2, .null] [] X (fun r1 X1 => r1 = r ∧ X1 = X')) : Sp d 119 [.ref 82, vI z1, vI z2] X r X' := Sp.of1 hd (vs := [.ref 82, vI z1, vI z2]) (ls := [.ref 82, vI z1, vI z2, .null]) (by rfl) (by rfl) h
theorem E119 {d : Nat} {X : q_H} {z1 : Int} {z2 : Int} {Q : Option Value → q_H → Prop} (hd : 1 ≤ d) (h : WP (d - 1) 119 0 [.ref 82, vI z1, vI z2, .null] [] X Q) : ∃ r X', Sp d 119 [.ref 82, vI z1, vI z2] X r X' ∧ Q r X' := Sp.of2 hd (vs := [.ref 82, vI z1, vI z2]) (ls := [.ref 82, vI z1, vI z2, .null]) (by rfl) (by rfl) h
theorem s119_0 {l1 l2 l3 : Value}  : WP d 119 0 [.ref 82, l1, l2, l3] (st) X Q = WP d 119 1 [.ref 82, l1, l2, l3] (.ref 82 :: st) X Q := w_aload_n (by rfl) rfl (by decide)
theorem s119_1 {l0 l2 l3 : Value} {z1 : Int} : WP d 119 1 [l0, vI z1, l2, l3] (st) X Q = WP d 119 2 [l0, vI z1, l2, l3] (vI z1 :: st) X Q := w_iload_n (by rfl) rfl
theorem c119_2 {l0 l1 l2 l3 : Value} {z1 : Int} {r : Int} {X' : q_H} (hN : 82 < N) (hS : Sp d 114 [.ref 82, vI z1] (N, L, M) (some (vI r)) X') : WP d 119 2 [l0, l1, l2, l3] (vI z1 :: .ref 82 :: []) (N, L, M) Q = WP d 119 5 [l0, l1, l2, l3] (vI r :: []) X' Q := w_callv (vs := [vI z1]) (by rfl) (by rfl) rfl (Nat.le_of_ble_eq_true rfl) (kd := 9) (by rfl) (by decide) (Or.inl hN) (by rfl) hS
theorem s119_5 {l0 l1 l2 l3 : Value} {z1 : Int} (h1 : -2147483648 ≤ z1 ∧ z1 ≤ 2147483647) : WP d 119 5 [l0, l1, l2, l3] (vI z1 :: st) X Q = if z1 = 0 then WP d 119 8 [l0, l1, l2, l3] (st) X Q else WP d 119 10 [l0, l1, l2, l3] (st) X Q := w_ifne (by rfl) (by decide) h1
theorem s119_5b {l0 l1 l2 l3 : Value} {P : Prop} [Decidable P] : WP d 119 5 [l0, l1, l2, l3] (vI (bI P) :: st) X Q = if P then WP d 119 10 [l0, l1, l2, l3] (st) X Q else WP d 119 8 [l0, l1, l2, l3] (st) X Q := w_ifneb (by rfl) (by decide)
theorem s119_8 {l0 l1 l2 l3 : Value}  : WP d 119 8 [l0, l1, l2, l3] (st) X Q = WP d 119 9 [l0, l1, l2, l3] (vI (-1) :: st) X Q := w_iconst (by rfl)
theorem s119_9 {l0 l1 l2 l3 : Value} {z1 : Int} : WP d 119 9 [l0, l1, l2, l3] (vI z1 :: []) X Q = Q (some (vI z1)) X := w_ireti (by rfl) (by rfl)
theorem s119_10 {l1 l2 l3 : Value}  : WP d 119 10 [.ref 82, l1, l2, l3] (st) X Q = WP d 119 11 [.ref 82, l1, l2, l3] (.ref 82 :: st) X Q := w_aload_n (by rfl) rfl (by decide)
theorem s119_11 {l0 l1 l3 : Value} {z1 : Int} : WP d 119 11 [l0, l1, vI z1, l3] (st) X Q = WP d 119 12 [l0, l1, vI z1, l3] (vI z1 :: st) X Q := w_iload_n (by rfl) rfl
theorem c119_12 {l0 l1 l2 l3 : Value} {z1 : Int} {r : Int} {X' : q_H} (hN : 82 < N) (hS : Sp d 115 [.ref 82, vI z1] (N, L, M) (some (vI r)) X') : WP d 119 12 [l0, l1, l2, l3] (vI z1 :: .ref 82 :: []) (N, L, M) Q = WP d 119 15 [l0, l1, l2, l3] (vI r :: []) X' Q := w_callv (vs := [vI z1]) (by rfl) (by rfl) rfl (Nat.le_of_ble_eq_true rfl) (kd := 9) (by rfl) (by decide) (Or.inl hN) (by rfl) hS
theorem s119_15 {l0 l1 l2 l3 : Value} {z1 : Int} (h1 : -2147483648 ≤ z1 ∧ z1 ≤ 2147483647) : WP d 119 15 [l0, l1, l2, l3] (vI z1 :: st) X Q = if z1 = 0 then WP d 119 18 [l0, l1, l2, l3] (st) X Q else WP d 119 21 [l0, l1, l2, l3] (st) X Q := w_ifne (by rfl) (by decide) h1
theorem s119_15b {l0 l1 l2 l3 : Value} {P : Prop} [Decidable P] : WP d 119 15 [l0, l1, l2, l3] (vI (bI P) :: st) X Q = if P then WP d 119 21 [l0, l1, l2, l3] (st) X Q else WP d 119 18 [l0, l1, l2, l3] (st) X Q := w_ifneb (by rfl) (by decide)
theorem s119_18 {l0 l1 l2 l3 : Value}  : WP d 119 18 [l0, l1, l2, l3] (st) X Q = WP d 119 20 [l0, l1, l2, l3] (vI (-2) :: st) X Q := w_bipush (by rfl) (by decide)
theorem s119_20 {l0 l1 l2 l3 : Value} {z1 : Int} : WP d 119 20 [l0, l1, l2, l3] (vI z1 :: []) X Q = Q (some (vI z1)) X := w_ireti (by rfl) (by rfl)
theorem s119_21 {l1 l2 l3 : Value}  : WP d 119 21 [.ref 82, l1, l2, l3] (st) X Q = WP d 119 22 [.ref 82, l1, l2, l3] (.ref 82 :: st) X Q := w_aload_n (by rfl) rfl (by decide)
theorem s119_22 {l0 l1 l2 l3 : Value} (hN : 82 < N) : WP d 119 22 [l0, l1, l2, l3] (.ref 82 :: st) (N, L, M) Q = WP d 119 25 [l0, l1, l2, l3] (M 82 7 :: st) (N, L, M) Q := w_getf (by rfl) (by rfl) hN (by decide) (by rfl)
theorem s119_25 {l0 l2 l3 : Value} {z1 : Int} : WP d 119 25 [l0, vI z1, l2, l3] (st) X Q = WP d 119 26 [l0, vI z1, l2, l3] (vI z1 :: st) X Q := w_iload_n (by rfl) rfl
theorem s119_26 {l0 l1 l2 l3 : Value} {j1 : Int} (hj : 0 ≤ j1 ∧ j1 < 4) (hN : 87 < N) : WP d 119 26 [l0, l1, l2, l3] (vI j1 :: .ref 87 :: st) (N, L, M) Q = WP d 119 27 [l0, l1, l2, l3] (M 87 j1.toNat :: st) (N, L, M) Q := w_iald (by rfl) (m := 4) (by rfl) hN (by decide) hj (by decide)
theorem s119_27 {l0 l1 l3 : Value} {z1 : Int} {z2 : Int} : WP d 119 27 [l0, l1, vI z1, l3] (vI z2 :: st) X Q = WP d 119 28 [l0, l1, vI z1, vI z2] (st) X Q := w_istore_n (by rfl) (q_okb_s rfl rfl) (Nat.le_of_ble_eq_true rfl) rfl
theorem s119_28 {l1 l2 l3 : Value}  : WP d 119 28 [.ref 82, l1, l2, l3] (st) X Q = WP d 119 29 [.ref 82, l1, l2, l3] (.ref 82 :: st) X Q := w_aload_n (by rfl) rfl (by decide)
theorem s119_29 {l0 l1 l2 l3 : Value} (hN : 82 < N) : WP d 119 29 [l0, l1, l2, l3] (.ref 82 :: st) (N, L, M) Q = WP d 119 32 [l0, l1, l2, l3] (M 82 7 :: st) (N, L, M) Q := w_getf (by rfl) (by rfl) hN (by decide) (by rfl)
theorem s119_32 {l0 l2 l3 : Value} {z1 : Int} : WP d 119 32 [l0, vI z1, l2, l3] (st) X Q = WP d 119 33 [l0, vI z1, l2, l3] (vI z1 :: st) X Q := w_iload_n (by rfl) rfl
theorem s119_33 {l0 l1 l3 : Value} {z1 : Int} : WP d 119 33 [l0, l1, vI z1, l3] (st) X Q = WP d 119 34 [l0, l1, vI z1, l3] (vI z1 :: st) X Q := w_iload_n (by rfl) rfl
theorem s119_34 {l0 l1 l2 l3 : Value} {j1 : Int} {z2 : Int} (hj : 0 ≤ j1 ∧ j1 < 4) (hN : 87 < N) : WP d 119 34 [l0, l1, l2, l3] (vI z2 :: vI j1 :: .ref 87 :: st) (N, L, M) Q = WP d 119 35 [l0, l1, l2, l3] (st) (N, L, up M 87 j1.toNat (vI z2)) Q := w_iast (by rfl) (m := 4) (by rfl) hN hj (by decide)
theorem s119_35 {l0 l1 l2 : Value} {z1 : Int} : WP d 119 35 [l0, l1, l2, vI z1] (st) X Q = WP d 119 36 [l0, l1, l2, vI z1] (vI z1 :: st) X Q := w_iload_n (by rfl) rfl
theorem s119_36 {l0 l1 l2 l3 : Value} {z1 : Int} : WP d 119 36 [l0, l1, l2, l3] (vI z1 :: []) X Q = Q (some (vI z1)) X := w_ireti (by rfl) (by rfl)
/-! 120 BellsThatEatModel.row -/
theorem e120 {d : Nat} {X : q_H} {z1 : Int} {z2 : Int} {z3 : Int} {r : Option Value} {X' : q_H} (hd : 1 ≤ d) (h : WP (d - 1) 120 0 [.ref 82, vI z1, vI z2, vI z3, .null] [] X (fun r1 X1 => r1 = r ∧ X1 = X')) : Sp d 120 [.ref 82, vI z1, vI z2, vI z3] X r X' := Sp.of1 hd (vs := [.ref 82, vI z1, vI z2, vI z3]) (ls := [.ref 82, vI z1, vI z2, vI z3, .null]) (by rfl) (by rfl) h
theorem E120 {d : Nat} {X : q_H} {z1 : Int} {z2 : Int} {z3 : Int} {Q : Option Value → q_H → Prop} (hd : 1 ≤ d) (h : WP (d - 1) 120 0 [.ref 82, vI z1, vI z2, vI z3, .null] [] X Q) : ∃ r X', Sp d 120 [.ref 82, vI z1, vI z2, vI z3] X r X' ∧ Q r X' := Sp.of2 hd (vs := [.ref 82, vI z1, vI z2, vI z3]) (ls := [.ref 82, vI z1, vI z2, vI z3, .null]) (by rfl) (by rfl) h
theorem s120_0 {l1 l2 l3 l4 : Value}  : WP d 120 0 [.ref 82, l1, l2, l3, l4] (st) X Q = WP d 120 1 [.ref 82, l1, l2, l3, l4] (.ref 82 :: st) X Q := w_aload_n (by rfl) rfl (by decide)
theorem s120_1 {l0 l2 l3 l4 : Value} {z1 : Int} : WP d 120 1 [l0, vI z1, l2, l3, l4] (st) X Q = WP d 120 2 [l0, vI z1, l2, l3, l4] (vI z1 :: st) X Q := w_iload_n (by rfl) rfl
theorem c120_2 {l0 l1 l2 l3 l4 : Value} {z1 : Int} {r : Int} {X' : q_H} (hN : 82 < N) (hS : Sp d 113 [.ref 82, vI z1] (N, L, M) (some (vI r)) X') : WP d 120 2 [l0, l1, l2, l3, l4] (vI z1 :: .ref 82 :: []) (N, L, M) Q = WP d 120 5 [l0, l1, l2, l3, l4] (vI r :: []) X' Q := w_callv (vs := [vI z1]) (by rfl) (by rfl) rfl (Nat.le_of_ble_eq_true rfl) (kd := 9) (by rfl) (by decide) (Or.inl hN) (by rfl) hS
theorem s120_5 {l0 l1 l2 l3 l4 : Value} {z1 : Int} (h1 : -2147483648 ≤ z1 ∧ z1 ≤ 2147483647) : WP d 120 5 [l0, l1, l2, l3, l4] (vI z1 :: st) X Q = if z1 = 0 then WP d 120 18 [l0, l1, l2, l3, l4] (st) X Q else WP d 120 8 [l0, l1, l2, l3, l4] (st) X Q := w_ifeq (by rfl) (by decide) h1
theorem s120_5b {l0 l1 l2 l3 l4 : Value} {P : Prop} [Decidable P] : WP d 120 5 [l0, l1, l2, l3, l4] (vI (bI P) :: st) X Q = if P then WP d 120 8 [l0, l1, l2, l3, l4] (st) X Q else WP d 120 18 [l0, l1, l2, l3, l4] (st) X Q := w_ifeqb (by rfl) (by decide)
theorem s120_8 {l1 l2 l3 l4 : Value}  : WP d 120 8 [.ref 82, l1, l2, l3, l4] (st) X Q = WP d 120 9 [.ref 82, l1, l2, l3, l4] (.ref 82 :: st) X Q := w_aload_n (by rfl) rfl (by decide)
theorem s120_9 {l0 l1 l3 l4 : Value} {z1 : Int} : WP d 120 9 [l0, l1, vI z1, l3, l4] (st) X Q = WP d 120 10 [l0, l1, vI z1, l3, l4] (vI z1 :: st) X Q := w_iload_n (by rfl) rfl
theorem s120_10 {l0 l1 l2 l3 l4 : Value}  : WP d 120 10 [l0, l1, l2, l3, l4] (st) X Q = WP d 120 11 [l0, l1, l2, l3, l4] (vI (0) :: st) X Q := w_iconst (by rfl)
theorem s120_11 {l0 l1 l2 l3 l4 : Value}  : WP d 120 11 [l0, l1, l2, l3, l4] (st) X Q = WP d 120 12 [l0, l1, l2, l3, l4] (vI (3) :: st) X Q := w_iconst (by rfl)
theorem c120_12 {l0 l1 l2 l3 l4 : Value} {z1 : Int} {z2 : Int} {z3 : Int} {r : Int} {X' : q_H} (hN : 82 < N) (hS : Sp d 109 [.ref 82, vI z1, vI z2, vI z3] (N, L, M) (some (vI r)) X') : WP d 120 12 [l0, l1, l2, l3, l4] (vI z3 :: vI z2 :: vI z1 :: .ref 82 :: []) (N, L, M) Q = WP d 120 15 [l0, l1, l2, l3, l4] (vI r :: []) X' Q := w_callv (vs := [vI z1, vI z2, vI z3]) (by rfl) (by rfl) rfl (Nat.le_of_ble_eq_true rfl) (kd := 9) (by rfl) (by decide) (Or.inl hN) (by rfl) hS
theorem s120_15 {l0 l1 l2 l3 l4 : Value} {z1 : Int} (h1 : -2147483648 ≤ z1 ∧ z1 ≤ 2147483647) : WP d 120 15 [l0, l1, l2, l3, l4] (vI z1 :: st) X Q = if z1 = 0 then WP d 120 18 [l0, l1, l2, l3, l4] (st) X Q else WP d 120 20 [l0, l1, l2, l3, l4] (st) X Q := w_ifne (by rfl) (by decide) h1
theorem s120_15b {l0 l1 l2 l3 l4 : Value} {P : Prop} [Decidable P] : WP d 120 15 [l0, l1, l2, l3, l4] (vI (bI P) :: st) X Q = if P then WP d 120 20 [l0, l1, l2, l3, l4] (st) X Q else WP d 120 18 [l0, l1, l2, l3, l4] (st) X Q := w_ifneb (by rfl) (by decide)
theorem s120_18 {l0 l1 l2 l3 l4 : Value}  : WP d 120 18 [l0, l1, l2, l3, l4] (st) X Q = WP d 120 19 [l0, l1, l2, l3, l4] (vI (-1) :: st) X Q := w_iconst (by rfl)
theorem s120_19 {l0 l1 l2 l3 l4 : Value} {z1 : Int} : WP d 120 19 [l0, l1, l2, l3, l4] (vI z1 :: []) X Q = Q (some (vI z1)) X := w_ireti (by rfl) (by rfl)
theorem s120_20 {l1 l2 l3 l4 : Value}  : WP d 120 20 [.ref 82, l1, l2, l3, l4] (st) X Q = WP d 120 21 [.ref 82, l1, l2, l3, l4] (.ref 82 :: st) X Q := w_aload_n (by rfl) rfl (by decide)
theorem s120_21 {l0 l1 l2 l4 : Value} {z1 : Int} : WP d 120 21 [l0, l1, l2, vI z1, l4] (st) X Q = WP d 120 22 [l0, l1, l2, vI z1, l4] (vI z1 :: st) X Q := w_iload_n (by rfl) rfl
theorem s120_22 {l0 l1 l2 l3 l4 : Value}  : WP d 120 22 [l0, l1, l2, l3, l4] (st) X Q = WP d 120 23 [l0, l1, l2, l3, l4] (vI (0) :: st) X Q := w_iconst (by rfl)
theorem s120_23 {l0 l1 l2 l3 l4 : Value}  : WP d 120 23 [l0, l1, l2, l3, l4] (st) X Q = WP d 120 25 [l0, l1, l2, l3, l4] (vI (9) :: st) X Q := w_bipush (by rfl) (by decide)
theorem c120_25 {l0 l1 l2 l3 l4 : Value} {z1 : Int} {z2 : Int} {z3 : Int} {r : Int} {X' : q_H} (hN : 82 < N) (hS : Sp d 109 [.ref 82, vI z1, vI z2, vI z3] (N, L, M) (some (vI r)) X') : WP d 120 25 [l0, l1, l2, l3, l4] (vI z3 :: vI z2 :: vI z1 :: .ref 82 :: []) (N, L, M) Q = WP d 120 28 [l0, l1, l2, l3, l4] (vI r :: []) X' Q := w_callv (vs := [vI z1, vI z2, vI z3]) (by rfl) (by rfl) rfl (Nat.le_of_ble_eq_true rfl) (kd := 9) (by rfl) (by decide) (Or.inl hN) (by rfl) hS
theorem s120_28 {l0 l1 l2 l3 l4 : Value} {z1 : Int} (h1 : -2147483648 ≤ z1 ∧ z1 ≤ 2147483647) : WP d 120 28 [l0, l1, l2, l3, l4] (vI z1 :: st) X Q = if z1 = 0 then WP d 120 31 [l0, l1, l2, l3, l4] (st) X Q else WP d 120 34 [l0, l1, l2, l3, l4] (st) X Q := w_ifne (by rfl) (by decide) h1
theorem s120_28b {l0 l1 l2 l3 l4 : Value} {P : Prop} [Decidable P] : WP d 120 28 [l0, l1, l2, l3, l4] (vI (bI P) :: st) X Q = if P then WP d 120 34 [l0, l1, l2, l3, l4] (st) X Q else WP d 120 31 [l0, l1, l2, l3, l4] (st) X Q := w_ifneb (by rfl) (by decide)
theorem s120_31 {l0 l1 l2 l3 l4 : Value}  : WP d 120 31 [l0, l1, l2, l3, l4] (st) X Q = WP d 120 33 [l0, l1, l2, l3, l4] (vI (-2) :: st) X Q := w_bipush (by rfl) (by decide)
theorem s120_33 {l0 l1 l2 l3 l4 : Value} {z1 : Int} : WP d 120 33 [l0, l1, l2, l3, l4] (vI z1 :: []) X Q = Q (some (vI z1)) X := w_ireti (by rfl) (by rfl)
theorem s120_34 {l1 l2 l3 l4 : Value}  : WP d 120 34 [.ref 82, l1, l2, l3, l4] (st) X Q = WP d 120 35 [.ref 82, l1, l2, l3, l4] (.ref 82 :: st) X Q := w_aload_n (by rfl) rfl (by decide)
theorem s120_35 {l0 l1 l2 l3 l4 : Value} (hN : 82 < N) : WP d 120 35 [l0, l1, l2, l3, l4] (.ref 82 :: st) (N, L, M) Q = WP d 120 38 [l0, l1, l2, l3, l4] (M 82 3 :: st) (N, L, M) Q := w_getf (by rfl) (by rfl) hN (by decide) (by rfl)
theorem s120_38 {l0 l2 l3 l4 : Value} {z1 : Int} : WP d 120 38 [l0, vI z1, l2, l3, l4] (st) X Q = WP d 120 39 [l0, vI z1, l2, l3, l4] (vI z1 :: st) X Q := w_iload_n (by rfl) rfl
theorem s120_39 {l0 l1 l2 l3 l4 : Value} {j1 : Int} (hj : 0 ≤ j1 ∧ j1 < 6) (hN : 83 < N) : WP d 120 39 [l0, l1, l2, l3, l4] (vI j1 :: .ref 83 :: st) (N, L, M) Q = WP d 120 40 [l0, l1, l2, l3, l4] (M 83 j1.toNat :: st) (N, L, M) Q := w_iald (by rfl) (m := 6) (by rfl) hN (by decide) hj (by decide)
theorem s120_40 {l0 l1 l2 l3 l4 : Value}  : WP d 120 40 [l0, l1, l2, l3, l4] (st) X Q = WP d 120 42 [l0, l1, l2, l3, l4] (vI (6) :: st) X Q := w_bipush (by rfl) (by decide)
theorem s120_42 {l0 l1 l2 l3 l4 : Value} {z1 : Int} {z2 : Int} (h1 : -2147483648 ≤ z1 ∧ z1 ≤ 2147483647) (h2 : -2147483648 ≤ z2 ∧ z2 ≤ 2147483647) : WP d 120 42 [l0, l1, l2, l3, l4] (vI z2 :: vI z1 :: st) X Q = if z1 = z2 then WP d 120 48 [l0, l1, l2, l3, l4] (st) X Q else WP d 120 45 [l0, l1, l2, l3, l4] (st) X Q := w_icmpeq (by rfl) (by decide) h1 h2
theorem s120_42b {l0 l1 l2 l3 l4 : Value} {P R : Prop} [Decidable P] [Decidable R] : WP d 120 42 [l0, l1, l2, l3, l4] (vI (bI R) :: vI (bI P) :: st) X Q = if (P ↔ R) then WP d 120 48 [l0, l1, l2, l3, l4] (st) X Q else WP d 120 45 [l0, l1, l2, l3, l4] (st) X Q := w_icmpeqb (by rfl) (by decide)
theorem s120_45 {l0 l1 l2 l3 l4 : Value}  : WP d 120 45 [l0, l1, l2, l3, l4] (st) X Q = WP d 120 47 [l0, l1, l2, l3, l4] (vI (-3) :: st) X Q := w_bipush (by rfl) (by decide)
theorem s120_47 {l0 l1 l2 l3 l4 : Value} {z1 : Int} : WP d 120 47 [l0, l1, l2, l3, l4] (vI z1 :: []) X Q = Q (some (vI z1)) X := w_ireti (by rfl) (by rfl)
theorem s120_48 {l1 l2 l3 l4 : Value}  : WP d 120 48 [.ref 82, l1, l2, l3, l4] (st) X Q = WP d 120 49 [.ref 82, l1, l2, l3, l4] (.ref 82 :: st) X Q := w_aload_n (by rfl) rfl (by decide)
theorem s120_49 {l0 l1 l2 l3 l4 : Value} (hN : 82 < N) : WP d 120 49 [l0, l1, l2, l3, l4] (.ref 82 :: st) (N, L, M) Q = WP d 120 52 [l0, l1, l2, l3, l4] (M 82 6 :: st) (N, L, M) Q := w_getf (by rfl) (by rfl) hN (by decide) (by rfl)
theorem s120_52 {l0 l1 l2 l3 l4 : Value}  : WP d 120 52 [l0, l1, l2, l3, l4] (st) X Q = WP d 120 53 [l0, l1, l2, l3, l4] (vI (4) :: st) X Q := w_iconst (by rfl)
theorem s120_53 {l0 l2 l3 l4 : Value} {z1 : Int} : WP d 120 53 [l0, vI z1, l2, l3, l4] (st) X Q = WP d 120 54 [l0, vI z1, l2, l3, l4] (vI z1 :: st) X Q := w_iload_n (by rfl) rfl
theorem s120_54 {l0 l1 l2 l3 l4 : Value} {z1 : Int} {z2 : Int} : WP d 120 54 [l0, l1, l2, l3, l4] (vI z2 :: vI z1 :: st) X Q = WP d 120 55 [l0, l1, l2, l3, l4] (vI (z1 * z2) :: st) X Q := w_imul (by rfl)
theorem s120_55 {l0 l1 l3 l4 : Value} {z1 : Int} : WP d 120 55 [l0, l1, vI z1, l3, l4] (st) X Q = WP d 120 56 [l0, l1, vI z1, l3, l4] (vI z1 :: st) X Q := w_iload_n (by rfl) rfl
theorem s120_56 {l0 l1 l2 l3 l4 : Value} {z1 : Int} {z2 : Int} : WP d 120 56 [l0, l1, l2, l3, l4] (vI z2 :: vI z1 :: st) X Q = WP d 120 57 [l0, l1, l2, l3, l4] (vI (z1 + z2) :: st) X Q := w_iadd (by rfl)
theorem s120_57 {l0 l1 l2 l3 l4 : Value} {j1 : Int} (hj : 0 ≤ j1 ∧ j1 < 24) (hN : 86 < N) : WP d 120 57 [l0, l1, l2, l3, l4] (vI j1 :: .ref 86 :: st) (N, L, M) Q = WP d 120 58 [l0, l1, l2, l3, l4] (M 86 j1.toNat :: st) (N, L, M) Q := w_iald (by rfl) (m := 24) (by rfl) hN (by decide) hj (by decide)
theorem s120_58 {l0 l1 l2 l4 : Value} {z1 : Int} {z2 : Int} : WP d 120 58 [l0, l1, l2, vI z1, l4] (vI z2 :: st) X Q = WP d 120 60 [l0, l1, l2, vI z1, vI z2] (st) X Q := w_istore (by rfl) (q_okb_s rfl rfl) (Nat.le_of_ble_eq_true rfl) rfl
theorem s120_60 {l1 l2 l3 l4 : Value}  : WP d 120 60 [.ref 82, l1, l2, l3, l4] (st) X Q = WP d 120 61 [.ref 82, l1, l2, l3, l4] (.ref 82 :: st) X Q := w_aload_n (by rfl) rfl (by decide)
theorem s120_61 {l0 l1 l2 l3 l4 : Value} (hN : 82 < N) : WP d 120 61 [l0, l1, l2, l3, l4] (.ref 82 :: st) (N, L, M) Q = WP d 120 64 [l0, l1, l2, l3, l4] (M 82 6 :: st) (N, L, M) Q := w_getf (by rfl) (by rfl) hN (by decide) (by rfl)
theorem s120_64 {l0 l1 l2 l3 l4 : Value}  : WP d 120 64 [l0, l1, l2, l3, l4] (st) X Q = WP d 120 65 [l0, l1, l2, l3, l4] (vI (4) :: st) X Q := w_iconst (by rfl)
theorem s120_65 {l0 l2 l3 l4 : Value} {z1 : Int} : WP d 120 65 [l0, vI z1, l2, l3, l4] (st) X Q = WP d 120 66 [l0, vI z1, l2, l3, l4] (vI z1 :: st) X Q := w_iload_n (by rfl) rfl
theorem s120_66 {l0 l1 l2 l3 l4 : Value} {z1 : Int} {z2 : Int} : WP d 120 66 [l0, l1, l2, l3, l4] (vI z2 :: vI z1 :: st) X Q = WP d 120 67 [l0, l1, l2, l3, l4] (vI (z1 * z2) :: st) X Q := w_imul (by rfl)
theorem s120_67 {l0 l1 l3 l4 : Value} {z1 : Int} : WP d 120 67 [l0, l1, vI z1, l3, l4] (st) X Q = WP d 120 68 [l0, l1, vI z1, l3, l4] (vI z1 :: st) X Q := w_iload_n (by rfl) rfl
theorem s120_68 {l0 l1 l2 l3 l4 : Value} {z1 : Int} {z2 : Int} : WP d 120 68 [l0, l1, l2, l3, l4] (vI z2 :: vI z1 :: st) X Q = WP d 120 69 [l0, l1, l2, l3, l4] (vI (z1 + z2) :: st) X Q := w_iadd (by rfl)
theorem s120_69 {l0 l1 l2 l4 : Value} {z1 : Int} : WP d 120 69 [l0, l1, l2, vI z1, l4] (st) X Q = WP d 120 70 [l0, l1, l2, vI z1, l4] (vI z1 :: st) X Q := w_iload_n (by rfl) rfl
theorem s120_70 {l0 l1 l2 l3 l4 : Value} {j1 : Int} {z2 : Int} (hj : 0 ≤ j1 ∧ j1 < 24) (hN : 86 < N) : WP d 120 70 [l0, l1, l2, l3, l4] (vI z2 :: vI j1 :: .ref 86 :: st) (N, L, M) Q = WP d 120 71 [l0, l1, l2, l3, l4] (st) (N, L, up M 86 j1.toNat (vI z2)) Q := w_iast (by rfl) (m := 24) (by rfl) hN hj (by decide)
theorem s120_71 {l0 l1 l2 l3 : Value} {z1 : Int} : WP d 120 71 [l0, l1, l2, l3, vI z1] (st) X Q = WP d 120 73 [l0, l1, l2, l3, vI z1] (vI z1 :: st) X Q := w_iload (by rfl) rfl
theorem s120_73 {l0 l1 l2 l3 l4 : Value} {z1 : Int} : WP d 120 73 [l0, l1, l2, l3, l4] (vI z1 :: []) X Q = Q (some (vI z1)) X := w_ireti (by rfl) (by rfl)
/-! 121 BellsThatEatModel.feed -/
theorem e121 {d : Nat} {X : q_H} {z1 : Int} {r : Option Value} {X' : q_H} (hd : 1 ≤ d) (h : WP (d - 1) 121 0 [.ref 82, vI z1] [] X (fun r1 X1 => r1 = r ∧ X1 = X')) : Sp d 121 [.ref 82, vI z1] X r X' := Sp.of1 hd (vs := [.ref 82, vI z1]) (ls := [.ref 82, vI z1]) (by rfl) (by rfl) h
theorem E121 {d : Nat} {X : q_H} {z1 : Int} {Q : Option Value → q_H → Prop} (hd : 1 ≤ d) (h : WP (d - 1) 121 0 [.ref 82, vI z1] [] X Q) : ∃ r X', Sp d 121 [.ref 82, vI z1] X r X' ∧ Q r X' := Sp.of2 hd (vs := [.ref 82, vI z1]) (ls := [.ref 82, vI z1]) (by rfl) (by rfl) h
theorem s121_0 {l1 : Value}  : WP d 121 0 [.ref 82, l1] (st) X Q = WP d 121 1 [.ref 82, l1] (.ref 82 :: st) X Q := w_aload_n (by rfl) rfl (by decide)
theorem s121_1 {l0 : Value} {z1 : Int} : WP d 121 1 [l0, vI z1] (st) X Q = WP d 121 2 [l0, vI z1] (vI z1 :: st) X Q := w_iload_n (by rfl) rfl
theorem s121_2 {l0 l1 : Value}  : WP d 121 2 [l0, l1] (st) X Q = WP d 121 3 [l0, l1] (vI (0) :: st) X Q := w_iconst (by rfl)
theorem s121_3 {l0 l1 : Value}  : WP d 121 3 [l0, l1] (st) X Q = WP d 121 5 [l0, l1] (vI (127) :: st) X Q := w_bipush (by rfl) (by decide)
theorem c121_5 {l0 l1 : Value} {z1 : Int} {z2 : Int} {z3 : Int} {r : Int} {X' : q_H} (hN : 82 < N) (hS : Sp d 109 [.ref 82, vI z1, vI z2, vI z3] (N, L, M) (some (vI r)) X') : WP d 121 5 [l0, l1] (vI z3 :: vI z2 :: vI z1 :: .ref 82 :: []) (N, L, M) Q = WP d 121 8 [l0, l1] (vI r :: []) X' Q := w_callv (vs := [vI z1, vI z2, vI z3]) (by rfl) (by rfl) rfl (Nat.le_of_ble_eq_true rfl) (kd := 9) (by rfl) (by decide) (Or.inl hN) (by rfl) hS
theorem s121_8 {l0 l1 : Value} {z1 : Int} (h1 : -2147483648 ≤ z1 ∧ z1 ≤ 2147483647) : WP d 121 8 [l0, l1] (vI z1 :: st) X Q = if z1 = 0 then WP d 121 11 [l0, l1] (st) X Q else WP d 121 14 [l0, l1] (st) X Q := w_ifne (by rfl) (by decide) h1
theorem s121_8b {l0 l1 : Value} {P : Prop} [Decidable P] : WP d 121 8 [l0, l1] (vI (bI P) :: st) X Q = if P then WP d 121 14 [l0, l1] (st) X Q else WP d 121 11 [l0, l1] (st) X Q := w_ifneb (by rfl) (by decide)
theorem s121_11 {l0 l1 : Value}  : WP d 121 11 [l0, l1] (st) X Q = WP d 121 13 [l0, l1] (vI (-2) :: st) X Q := w_bipush (by rfl) (by decide)
theorem s121_13 {l0 l1 : Value} {z1 : Int} : WP d 121 13 [l0, l1] (vI z1 :: []) X Q = Q (some (vI z1)) X := w_ireti (by rfl) (by rfl)
theorem s121_14 {l1 : Value}  : WP d 121 14 [.ref 82, l1] (st) X Q = WP d 121 15 [.ref 82, l1] (.ref 82 :: st) X Q := w_aload_n (by rfl) rfl (by decide)
theorem s121_15 {l0 l1 : Value} (hN : 82 < N) : WP d 121 15 [l0, l1] (.ref 82 :: st) (N, L, M) Q = WP d 121 18 [l0, l1] (M 82 10 :: st) (N, L, M) Q := w_getf (by rfl) (by rfl) hN (by decide) (by rfl)
theorem s121_18 {l0 l1 : Value}  : WP d 121 18 [l0, l1] (st) X Q = WP d 121 20 [l0, l1] (vI (100) :: st) X Q := w_bipush (by rfl) (by decide)
theorem s121_20 {l0 l1 : Value} {z1 : Int} {z2 : Int} (h1 : -2147483648 ≤ z1 ∧ z1 ≤ 2147483647) (h2 : -2147483648 ≤ z2 ∧ z2 ≤ 2147483647) : WP d 121 20 [l0, l1] (vI z2 :: vI z1 :: st) X Q = if z1 = z2 then WP d 121 23 [l0, l1] (st) X Q else WP d 121 26 [l0, l1] (st) X Q := w_icmpne (by rfl) (by decide) h1 h2
theorem s121_20b {l0 l1 : Value} {P R : Prop} [Decidable P] [Decidable R] : WP d 121 20 [l0, l1] (vI (bI R) :: vI (bI P) :: st) X Q = if (P ↔ R) then WP d 121 23 [l0, l1] (st) X Q else WP d 121 26 [l0, l1] (st) X Q := w_icmpneb (by rfl) (by decide)
theorem s121_23 {l0 l1 : Value}  : WP d 121 23 [l0, l1] (st) X Q = WP d 121 25 [l0, l1] (vI (-4) :: st) X Q := w_bipush (by rfl) (by decide)
theorem s121_25 {l0 l1 : Value} {z1 : Int} : WP d 121 25 [l0, l1] (vI z1 :: []) X Q = Q (some (vI z1)) X := w_ireti (by rfl) (by rfl)
theorem s121_26 {l1 : Value}  : WP d 121 26 [.ref 82, l1] (st) X Q = WP d 121 27 [.ref 82, l1] (.ref 82 :: st) X Q := w_aload_n (by rfl) rfl (by decide)
theorem s121_27 {l0 l1 : Value} (hN : 82 < N) : WP d 121 27 [l0, l1] (.ref 82 :: st) (N, L, M) Q = WP d 121 30 [l0, l1] (M 82 13 :: st) (N, L, M) Q := w_getf (by rfl) (by rfl) hN (by decide) (by rfl)
theorem s121_30 {l1 : Value}  : WP d 121 30 [.ref 82, l1] (st) X Q = WP d 121 31 [.ref 82, l1] (.ref 82 :: st) X Q := w_aload_n (by rfl) rfl (by decide)
theorem s121_31 {l0 l1 : Value} (hN : 82 < N) : WP d 121 31 [l0, l1] (.ref 82 :: st) (N, L, M) Q = WP d 121 34 [l0, l1] (M 82 10 :: st) (N, L, M) Q := w_getf (by rfl) (by rfl) hN (by decide) (by rfl)
theorem s121_34 {l0 : Value} {z1 : Int} : WP d 121 34 [l0, vI z1] (st) X Q = WP d 121 35 [l0, vI z1] (vI z1 :: st) X Q := w_iload_n (by rfl) rfl
theorem s121_35 {l0 l1 : Value} {j1 : Int} {z2 : Int} (hj : 0 ≤ j1 ∧ j1 < 100) (hN : 88 < N) : WP d 121 35 [l0, l1] (vI z2 :: vI j1 :: .ref 88 :: st) (N, L, M) Q = WP d 121 36 [l0, l1] (st) (N, L, up M 88 j1.toNat (vI z2)) Q := w_iast (by rfl) (m := 100) (by rfl) hN hj (by decide)
theorem s121_36 {l1 : Value}  : WP d 121 36 [.ref 82, l1] (st) X Q = WP d 121 37 [.ref 82, l1] (.ref 82 :: st) X Q := w_aload_n (by rfl) rfl (by decide)
theorem s121_37 {l0 l1 : Value} {a1 : Nat} : WP d 121 37 [l0, l1] (.ref a1 :: st) X Q = WP d 121 38 [l0, l1] (.ref a1 :: .ref a1 :: st) X Q := w_dup (by rfl) rfl
theorem s121_38 {l0 l1 : Value} (hN : 82 < N) : WP d 121 38 [l0, l1] (.ref 82 :: st) (N, L, M) Q = WP d 121 41 [l0, l1] (M 82 10 :: st) (N, L, M) Q := w_getf (by rfl) (by rfl) hN (by decide) (by rfl)
theorem s121_41 {l0 l1 : Value}  : WP d 121 41 [l0, l1] (st) X Q = WP d 121 42 [l0, l1] (vI (1) :: st) X Q := w_iconst (by rfl)
theorem s121_42 {l0 l1 : Value} {z1 : Int} {z2 : Int} : WP d 121 42 [l0, l1] (vI z2 :: vI z1 :: st) X Q = WP d 121 43 [l0, l1] (vI (z1 + z2) :: st) X Q := w_iadd (by rfl)
theorem s121_43 {l0 l1 : Value} {z1 : Int} (hN : 82 < N) : WP d 121 43 [l0, l1] (vI z1 :: .ref 82 :: st) (N, L, M) Q = WP d 121 46 [l0, l1] (st) (N, L, up M 82 10 (vI z1)) Q := w_putf (ci := 9) (by rfl) (by rfl) (by decide) hN (by rfl) (q_fit_int rfl _)
theorem s121_46 {l1 : Value}  : WP d 121 46 [.ref 82, l1] (st) X Q = WP d 121 47 [.ref 82, l1] (.ref 82 :: st) X Q := w_aload_n (by rfl) rfl (by decide)
theorem s121_47 {l0 l1 : Value} (hN : 82 < N) : WP d 121 47 [l0, l1] (.ref 82 :: st) (N, L, M) Q = WP d 121 50 [l0, l1] (M 82 10 :: st) (N, L, M) Q := w_getf (by rfl) (by rfl) hN (by decide) (by rfl)
theorem s121_50 {l0 l1 : Value} {z1 : Int} : WP d 121 50 [l0, l1] (vI z1 :: []) X Q = Q (some (vI z1)) X := w_ireti (by rfl) (by rfl)
/-! 122 BellsThatEatModel.next -/
theorem e122 {d : Nat} {X : q_H}  {r : Option Value} {X' : q_H} (hd : 1 ≤ d) (h : WP (d - 1) 122 0 [.ref 82] [] X (fun r1 X1 => r1 = r ∧ X1 = X')) : Sp d 122 [.ref 82] X r X' := Sp.of1 hd (vs := [.ref 82]) (ls := [.ref 82]) (by rfl) (by rfl) h
theorem E122 {d : Nat} {X : q_H}  {Q : Option Value → q_H → Prop} (hd : 1 ≤ d) (h : WP (d - 1) 122 0 [.ref 82] [] X Q) : ∃ r X', Sp d 122 [.ref 82] X r X' ∧ Q r X' := Sp.of2 hd (vs := [.ref 82]) (ls := [.ref 82]) (by rfl) (by rfl) h
theorem s122_0  : WP d 122 0 [.ref 82] (st) X Q = WP d 122 1 [.ref 82] (.ref 82 :: st) X Q := w_aload_n (by rfl) rfl (by decide)
theorem s122_1 {l0 : Value} (hN : 82 < N) : WP d 122 1 [l0] (.ref 82 :: st) (N, L, M) Q = WP d 122 4 [l0] (M 82 11 :: st) (N, L, M) Q := w_getf (by rfl) (by rfl) hN (by decide) (by rfl)
theorem s122_4  : WP d 122 4 [.ref 82] (st) X Q = WP d 122 5 [.ref 82] (.ref 82 :: st) X Q := w_aload_n (by rfl) rfl (by decide)
theorem s122_5 {l0 : Value} (hN : 82 < N) : WP d 122 5 [l0] (.ref 82 :: st) (N, L, M) Q = WP d 122 8 [l0] (M 82 10 :: st) (N, L, M) Q := w_getf (by rfl) (by rfl) hN (by decide) (by rfl)
theorem s122_8 {l0 : Value} {z1 : Int} {z2 : Int} (h1 : -2147483648 ≤ z1 ∧ z1 ≤ 2147483647) (h2 : -2147483648 ≤ z2 ∧ z2 ≤ 2147483647) : WP d 122 8 [l0] (vI z2 :: vI z1 :: st) X Q = if z1 < z2 then WP d 122 11 [l0] (st) X Q else WP d 122 23 [l0] (st) X Q := w_icmpge (by rfl) (by decide) h1 h2
theorem s122_11  : WP d 122 11 [.ref 82] (st) X Q = WP d 122 12 [.ref 82] (.ref 82 :: st) X Q := w_aload_n (by rfl) rfl (by decide)
theorem s122_12 {l0 : Value} (hN : 82 < N) : WP d 122 12 [l0] (.ref 82 :: st) (N, L, M) Q = WP d 122 15 [l0] (M 82 13 :: st) (N, L, M) Q := w_getf (by rfl) (by rfl) hN (by decide) (by rfl)
theorem s122_15  : WP d 122 15 [.ref 82] (st) X Q = WP d 122 16 [.ref 82] (.ref 82 :: st) X Q := w_aload_n (by rfl) rfl (by decide)
theorem s122_16 {l0 : Value} (hN : 82 < N) : WP d 122 16 [l0] (.ref 82 :: st) (N, L, M) Q = WP d 122 19 [l0] (M 82 11 :: st) (N, L, M) Q := w_getf (by rfl) (by rfl) hN (by decide) (by rfl)
theorem s122_19 {l0 : Value} {j1 : Int} (hj : 0 ≤ j1 ∧ j1 < 100) (hN : 88 < N) : WP d 122 19 [l0] (vI j1 :: .ref 88 :: st) (N, L, M) Q = WP d 122 20 [l0] (M 88 j1.toNat :: st) (N, L, M) Q := w_iald (by rfl) (m := 100) (by rfl) hN (by decide) hj (by decide)
theorem s122_20 {l0 : Value}  : WP d 122 20 [l0] (st) X Q = WP d 122 24 [l0] (st) X Q := w_goto (by rfl) (by decide)
theorem s122_23 {l0 : Value}  : WP d 122 23 [l0] (st) X Q = WP d 122 24 [l0] (vI (-1) :: st) X Q := w_iconst (by rfl)
theorem s122_24 {l0 : Value} {z1 : Int} : WP d 122 24 [l0] (vI z1 :: []) X Q = Q (some (vI z1)) X := w_ireti (by rfl) (by rfl)
/-! 123 BellsThatEatModel.second -/
theorem e123 {d : Nat} {X : q_H}  {r : Option Value} {X' : q_H} (hd : 1 ≤ d) (h : WP (d - 1) 123 0 [.ref 82] [] X (fun r1 X1 => r1 = r ∧ X1 = X')) : Sp d 123 [.ref 82] X r X' := Sp.of1 hd (vs := [.ref 82]) (ls := [.ref 82]) (by rfl) (by rfl) h
theorem E123 {d : Nat} {X : q_H}  {Q : Option Value → q_H → Prop} (hd : 1 ≤ d) (h : WP (d - 1) 123 0 [.ref 82] [] X Q) : ∃ r X', Sp d 123 [.ref 82] X r X' ∧ Q r X' := Sp.of2 hd (vs := [.ref 82]) (ls := [.ref 82]) (by rfl) (by rfl) h
theorem s123_0  : WP d 123 0 [.ref 82] (st) X Q = WP d 123 1 [.ref 82] (.ref 82 :: st) X Q := w_aload_n (by rfl) rfl (by decide)
theorem s123_1 {l0 : Value} (hN : 82 < N) : WP d 123 1 [l0] (.ref 82 :: st) (N, L, M) Q = WP d 123 4 [l0] (M 82 11 :: st) (N, L, M) Q := w_getf (by rfl) (by rfl) hN (by decide) (by rfl)
theorem s123_4 {l0 : Value}  : WP d 123 4 [l0] (st) X Q = WP d 123 5 [l0] (vI (1) :: st) X Q := w_iconst (by rfl)
theorem s123_5 {l0 : Value} {z1 : Int} {z2 : Int} : WP d 123 5 [l0] (vI z2 :: vI z1 :: st) X Q = WP d 123 6 [l0] (vI (z1 + z2) :: st) X Q := w_iadd (by rfl)
theorem s123_6  : WP d 123 6 [.ref 82] (st) X Q = WP d 123 7 [.ref 82] (.ref 82 :: st) X Q := w_aload_n (by rfl) rfl (by decide)
theorem s123_7 {l0 : Value} (hN : 82 < N) : WP d 123 7 [l0] (.ref 82 :: st) (N, L, M) Q = WP d 123 10 [l0] (M 82 10 :: st) (N, L, M) Q := w_getf (by rfl) (by rfl) hN (by decide) (by rfl)
theorem s123_10 {l0 : Value} {z1 : Int} {z2 : Int} (h1 : -2147483648 ≤ z1 ∧ z1 ≤ 2147483647) (h2 : -2147483648 ≤ z2 ∧ z2 ≤ 2147483647) : WP d 123 10 [l0] (vI z2 :: vI z1 :: st) X Q = if z1 < z2 then WP d 123 13 [l0] (st) X Q else WP d 123 27 [l0] (st) X Q := w_icmpge (by rfl) (by decide) h1 h2
theorem s123_13  : WP d 123 13 [.ref 82] (st) X Q = WP d 123 14 [.ref 82] (.ref 82 :: st) X Q := w_aload_n (by rfl) rfl (by decide)
theorem s123_14 {l0 : Value} (hN : 82 < N) : WP d 123 14 [l0] (.ref 82 :: st) (N, L, M) Q = WP d 123 17 [l0] (M 82 13 :: st) (N, L, M) Q := w_getf (by rfl) (by rfl) hN (by decide) (by rfl)
theorem s123_17  : WP d 123 17 [.ref 82] (st) X Q = WP d 123 18 [.ref 82] (.ref 82 :: st) X Q := w_aload_n (by rfl) rfl (by decide)
theorem s123_18 {l0 : Value} (hN : 82 < N) : WP d 123 18 [l0] (.ref 82 :: st) (N, L, M) Q = WP d 123 21 [l0] (M 82 11 :: st) (N, L, M) Q := w_getf (by rfl) (by rfl) hN (by decide) (by rfl)
theorem s123_21 {l0 : Value}  : WP d 123 21 [l0] (st) X Q = WP d 123 22 [l0] (vI (1) :: st) X Q := w_iconst (by rfl)
theorem s123_22 {l0 : Value} {z1 : Int} {z2 : Int} : WP d 123 22 [l0] (vI z2 :: vI z1 :: st) X Q = WP d 123 23 [l0] (vI (z1 + z2) :: st) X Q := w_iadd (by rfl)
theorem s123_23 {l0 : Value} {j1 : Int} (hj : 0 ≤ j1 ∧ j1 < 100) (hN : 88 < N) : WP d 123 23 [l0] (vI j1 :: .ref 88 :: st) (N, L, M) Q = WP d 123 24 [l0] (M 88 j1.toNat :: st) (N, L, M) Q := w_iald (by rfl) (m := 100) (by rfl) hN (by decide) hj (by decide)
theorem s123_24 {l0 : Value}  : WP d 123 24 [l0] (st) X Q = WP d 123 28 [l0] (st) X Q := w_goto (by rfl) (by decide)
theorem s123_27 {l0 : Value}  : WP d 123 27 [l0] (st) X Q = WP d 123 28 [l0] (vI (-1) :: st) X Q := w_iconst (by rfl)
theorem s123_28 {l0 : Value} {z1 : Int} : WP d 123 28 [l0] (vI z1 :: []) X Q = Q (some (vI z1)) X := w_ireti (by rfl) (by rfl)
/-! 124 BellsThatEatModel.takes -/
theorem e124 {d : Nat} {X : q_H} {z1 : Int} {r : Option Value} {X' : q_H} (hd : 1 ≤ d) (h : WP (d - 1) 124 0 [.ref 82, vI z1] [] X (fun r1 X1 => r1 = r ∧ X1 = X')) : Sp d 124 [.ref 82, vI z1] X r X' := Sp.of1 hd (vs := [.ref 82, vI z1]) (ls := [.ref 82, vI z1]) (by rfl) (by rfl) h
theorem E124 {d : Nat} {X : q_H} {z1 : Int} {Q : Option Value → q_H → Prop} (hd : 1 ≤ d) (h : WP (d - 1) 124 0 [.ref 82, vI z1] [] X Q) : ∃ r X', Sp d 124 [.ref 82, vI z1] X r X' ∧ Q r X' := Sp.of2 hd (vs := [.ref 82, vI z1]) (ls := [.ref 82, vI z1]) (by rfl) (by rfl) h
theorem s124_0 {l1 : Value}  : WP d 124 0 [.ref 82, l1] (st) X Q = WP d 124 1 [.ref 82, l1] (.ref 82 :: st) X Q := w_aload_n (by rfl) rfl (by decide)
theorem c124_1 {l0 l1 : Value} {r : Int} {X' : q_H} (hN : 82 < N) (hS : Sp d 122 [.ref 82] (N, L, M) (some (vI r)) X') : WP d 124 1 [l0, l1] (.ref 82 :: []) (N, L, M) Q = WP d 124 4 [l0, l1] (vI r :: []) X' Q := w_callv (vs := []) (by rfl) (by rfl) rfl (Nat.le_of_ble_eq_true rfl) (kd := 9) (by rfl) (by decide) (Or.inl hN) (by rfl) hS
theorem s124_4 {l0 : Value} {z1 : Int} : WP d 124 4 [l0, vI z1] (st) X Q = WP d 124 5 [l0, vI z1] (vI z1 :: st) X Q := w_iload_n (by rfl) rfl
theorem s124_5 {l0 l1 : Value} {z1 : Int} {z2 : Int} (h1 : -2147483648 ≤ z1 ∧ z1 ≤ 2147483647) (h2 : -2147483648 ≤ z2 ∧ z2 ≤ 2147483647) : WP d 124 5 [l0, l1] (vI z2 :: vI z1 :: st) X Q = if z1 = z2 then WP d 124 10 [l0, l1] (st) X Q else WP d 124 8 [l0, l1] (st) X Q := w_icmpeq (by rfl) (by decide) h1 h2
theorem s124_5b {l0 l1 : Value} {P R : Prop} [Decidable P] [Decidable R] : WP d 124 5 [l0, l1] (vI (bI R) :: vI (bI P) :: st) X Q = if (P ↔ R) then WP d 124 10 [l0, l1] (st) X Q else WP d 124 8 [l0, l1] (st) X Q := w_icmpeqb (by rfl) (by decide)
theorem s124_8 {l0 l1 : Value}  : WP d 124 8 [l0, l1] (st) X Q = WP d 124 9 [l0, l1] (vI (0) :: st) X Q := w_iconst (by rfl)
theorem s124_9 {l0 l1 : Value} {z1 : Int} (hz : z1 = 0 ∨ z1 = 1) : WP d 124 9 [l0, l1] (vI z1 :: []) X Q = Q (some (vI z1)) X := w_iretz (by rfl) (by rfl) (nb_bool hz)
theorem s124_9b {l0 l1 : Value} {P : Prop} [Decidable P] : WP d 124 9 [l0, l1] (vI (bI P) :: []) X Q = Q (some (vI (bI P))) X := w_iretz (by rfl) (by rfl) (nb_bool (bI_01 P))
theorem s124_10 {l1 : Value}  : WP d 124 10 [.ref 82, l1] (st) X Q = WP d 124 11 [.ref 82, l1] (.ref 82 :: st) X Q := w_aload_n (by rfl) rfl (by decide)
theorem s124_11 {l0 l1 : Value} {a1 : Nat} : WP d 124 11 [l0, l1] (.ref a1 :: st) X Q = WP d 124 12 [l0, l1] (.ref a1 :: .ref a1 :: st) X Q := w_dup (by rfl) rfl
theorem s124_12 {l0 l1 : Value} (hN : 82 < N) : WP d 124 12 [l0, l1] (.ref 82 :: st) (N, L, M) Q = WP d 124 15 [l0, l1] (M 82 11 :: st) (N, L, M) Q := w_getf (by rfl) (by rfl) hN (by decide) (by rfl)
theorem s124_15 {l0 l1 : Value}  : WP d 124 15 [l0, l1] (st) X Q = WP d 124 16 [l0, l1] (vI (1) :: st) X Q := w_iconst (by rfl)
theorem s124_16 {l0 l1 : Value} {z1 : Int} {z2 : Int} : WP d 124 16 [l0, l1] (vI z2 :: vI z1 :: st) X Q = WP d 124 17 [l0, l1] (vI (z1 + z2) :: st) X Q := w_iadd (by rfl)
theorem s124_17 {l0 l1 : Value} {z1 : Int} (hN : 82 < N) : WP d 124 17 [l0, l1] (vI z1 :: .ref 82 :: st) (N, L, M) Q = WP d 124 20 [l0, l1] (st) (N, L, up M 82 11 (vI z1)) Q := w_putf (ci := 9) (by rfl) (by rfl) (by decide) hN (by rfl) (q_fit_int rfl _)
theorem s124_20 {l0 l1 : Value}  : WP d 124 20 [l0, l1] (st) X Q = WP d 124 21 [l0, l1] (vI (1) :: st) X Q := w_iconst (by rfl)
theorem s124_21 {l0 l1 : Value} {z1 : Int} (hz : z1 = 0 ∨ z1 = 1) : WP d 124 21 [l0, l1] (vI z1 :: []) X Q = Q (some (vI z1)) X := w_iretz (by rfl) (by rfl) (nb_bool hz)
theorem s124_21b {l0 l1 : Value} {P : Prop} [Decidable P] : WP d 124 21 [l0, l1] (vI (bI P) :: []) X Q = Q (some (vI (bI P))) X := w_iretz (by rfl) (by rfl) (nb_bool (bI_01 P))
/-! 125 BellsThatEatModel.takesWord -/
theorem e125 {d : Nat} {X : q_H} {z1 : Int} {z2 : Int} {r : Option Value} {X' : q_H} (hd : 1 ≤ d) (h : WP (d - 1) 125 0 [.ref 82, vI z1, vI z2, .null] [] X (fun r1 X1 => r1 = r ∧ X1 = X')) : Sp d 125 [.ref 82, vI z1, vI z2] X r X' := Sp.of1 hd (vs := [.ref 82, vI z1, vI z2]) (ls := [.ref 82, vI z1, vI z2, .null]) (by rfl) (by rfl) h
theorem E125 {d : Nat} {X : q_H} {z1 : Int} {z2 : Int} {Q : Option Value → q_H → Prop} (hd : 1 ≤ d) (h : WP (d - 1) 125 0 [.ref 82, vI z1, vI z2, .null] [] X Q) : ∃ r X', Sp d 125 [.ref 82, vI z1, vI z2] X r X' ∧ Q r X' := Sp.of2 hd (vs := [.ref 82, vI z1, vI z2]) (ls := [.ref 82, vI z1, vI z2, .null]) (by rfl) (by rfl) h
theorem s125_0 {l0 l1 l2 l3 : Value}  : WP d 125 0 [l0, l1, l2, l3] (st) X Q = WP d 125 1 [l0, l1, l2, l3] (vI (0) :: st) X Q := w_iconst (by rfl)
theorem s125_1 {l0 l1 l3 : Value} {z1 : Int} {z2 : Int} : WP d 125 1 [l0, l1, vI z1, l3] (vI z2 :: st) X Q = WP d 125 2 [l0, l1, vI z1, vI z2] (st) X Q := w_istore_n (by rfl) (q_okb_s rfl rfl) (Nat.le_of_ble_eq_true rfl) rfl
theorem s125_2 {l0 l1 l2 : Value} {z1 : Int} : WP d 125 2 [l0, l1, l2, vI z1] (st) X Q = WP d 125 3 [l0, l1, l2, vI z1] (vI z1 :: st) X Q := w_iload_n (by rfl) rfl
theorem s125_3 {l0 l1 l3 : Value} {z1 : Int} : WP d 125 3 [l0, l1, vI z1, l3] (st) X Q = WP d 125 4 [l0, l1, vI z1, l3] (vI z1 :: st) X Q := w_iload_n (by rfl) rfl
theorem s125_4 {l0 l1 l2 l3 : Value} {z1 : Int} {z2 : Int} (h1 : -2147483648 ≤ z1 ∧ z1 ≤ 2147483647) (h2 : -2147483648 ≤ z2 ∧ z2 ≤ 2147483647) : WP d 125 4 [l0, l1, l2, l3] (vI z2 :: vI z1 :: st) X Q = if z1 < z2 then WP d 125 7 [l0, l1, l2, l3] (st) X Q else WP d 125 30 [l0, l1, l2, l3] (st) X Q := w_icmpge (by rfl) (by decide) h1 h2
theorem s125_7 {l1 l2 l3 : Value}  : WP d 125 7 [.ref 82, l1, l2, l3] (st) X Q = WP d 125 8 [.ref 82, l1, l2, l3] (.ref 82 :: st) X Q := w_aload_n (by rfl) rfl (by decide)
theorem s125_8 {l1 l2 l3 : Value}  : WP d 125 8 [.ref 82, l1, l2, l3] (st) X Q = WP d 125 9 [.ref 82, l1, l2, l3] (.ref 82 :: st) X Q := w_aload_n (by rfl) rfl (by decide)
theorem s125_9 {l0 l1 l2 l3 : Value} (hN : 82 < N) : WP d 125 9 [l0, l1, l2, l3] (.ref 82 :: st) (N, L, M) Q = WP d 125 12 [l0, l1, l2, l3] (M 82 24 :: st) (N, L, M) Q := w_getf (by rfl) (by rfl) hN (by decide) (by rfl)
theorem s125_12 {l0 l2 l3 : Value} {z1 : Int} : WP d 125 12 [l0, vI z1, l2, l3] (st) X Q = WP d 125 13 [l0, vI z1, l2, l3] (vI z1 :: st) X Q := w_iload_n (by rfl) rfl
theorem s125_13 {l0 l1 l2 : Value} {z1 : Int} : WP d 125 13 [l0, l1, l2, vI z1] (st) X Q = WP d 125 14 [l0, l1, l2, vI z1] (vI z1 :: st) X Q := w_iload_n (by rfl) rfl
theorem s125_14 {l0 l1 l2 l3 : Value} {z1 : Int} {z2 : Int} : WP d 125 14 [l0, l1, l2, l3] (vI z2 :: vI z1 :: st) X Q = WP d 125 15 [l0, l1, l2, l3] (vI (z1 + z2) :: st) X Q := w_iadd (by rfl)
theorem s125_15 {l0 l1 l2 l3 : Value} {j1 : Int} (hj : 0 ≤ j1 ∧ j1 < 20) (hN : 96 < N) : WP d 125 15 [l0, l1, l2, l3] (vI j1 :: .ref 96 :: st) (N, L, M) Q = WP d 125 16 [l0, l1, l2, l3] (M 96 j1.toNat :: st) (N, L, M) Q := w_iald (by rfl) (m := 20) (by rfl) hN (by decide) hj (by decide)
theorem c125_16 {l0 l1 l2 l3 : Value} {z1 : Int} {r : Int} {X' : q_H} (hN : 82 < N) (hS : Sp d 124 [.ref 82, vI z1] (N, L, M) (some (vI r)) X') : WP d 125 16 [l0, l1, l2, l3] (vI z1 :: .ref 82 :: []) (N, L, M) Q = WP d 125 19 [l0, l1, l2, l3] (vI r :: []) X' Q := w_callv (vs := [vI z1]) (by rfl) (by rfl) rfl (Nat.le_of_ble_eq_true rfl) (kd := 9) (by rfl) (by decide) (Or.inl hN) (by rfl) hS
theorem s125_19 {l0 l1 l2 l3 : Value} {z1 : Int} (h1 : -2147483648 ≤ z1 ∧ z1 ≤ 2147483647) : WP d 125 19 [l0, l1, l2, l3] (vI z1 :: st) X Q = if z1 = 0 then WP d 125 22 [l0, l1, l2, l3] (st) X Q else WP d 125 24 [l0, l1, l2, l3] (st) X Q := w_ifne (by rfl) (by decide) h1
theorem s125_19b {l0 l1 l2 l3 : Value} {P : Prop} [Decidable P] : WP d 125 19 [l0, l1, l2, l3] (vI (bI P) :: st) X Q = if P then WP d 125 24 [l0, l1, l2, l3] (st) X Q else WP d 125 22 [l0, l1, l2, l3] (st) X Q := w_ifneb (by rfl) (by decide)
theorem s125_22 {l0 l1 l2 l3 : Value}  : WP d 125 22 [l0, l1, l2, l3] (st) X Q = WP d 125 23 [l0, l1, l2, l3] (vI (0) :: st) X Q := w_iconst (by rfl)
theorem s125_23 {l0 l1 l2 l3 : Value} {z1 : Int} (hz : z1 = 0 ∨ z1 = 1) : WP d 125 23 [l0, l1, l2, l3] (vI z1 :: []) X Q = Q (some (vI z1)) X := w_iretz (by rfl) (by rfl) (nb_bool hz)
theorem s125_23b {l0 l1 l2 l3 : Value} {P : Prop} [Decidable P] : WP d 125 23 [l0, l1, l2, l3] (vI (bI P) :: []) X Q = Q (some (vI (bI P))) X := w_iretz (by rfl) (by rfl) (nb_bool (bI_01 P))
theorem s125_24 {l0 l1 : Value} {z1 : Int} {z2 : Int} : WP d 125 24 [l0, l1, vI z2, vI z1] (st) X Q = WP d 125 27 [l0, l1, vI z2, vI (z1 + 1)] (st) X Q := w_iinc (by rfl) rfl (q_okb_s rfl rfl) (Nat.le_of_ble_eq_true rfl) rfl
theorem s125_27 {l0 l1 l2 l3 : Value}  : WP d 125 27 [l0, l1, l2, l3] (st) X Q = WP d 125 2 [l0, l1, l2, l3] (st) X Q := w_goto (by rfl) (by decide)
theorem s125_30 {l1 l2 l3 : Value}  : WP d 125 30 [.ref 82, l1, l2, l3] (st) X Q = WP d 125 31 [.ref 82, l1, l2, l3] (.ref 82 :: st) X Q := w_aload_n (by rfl) rfl (by decide)
theorem s125_31 {l0 l1 l2 l3 : Value}  : WP d 125 31 [l0, l1, l2, l3] (st) X Q = WP d 125 33 [l0, l1, l2, l3] (vI (32) :: st) X Q := w_bipush (by rfl) (by decide)
theorem c125_33 {l0 l1 l2 l3 : Value} {z1 : Int} {r : Int} {X' : q_H} (hN : 82 < N) (hS : Sp d 124 [.ref 82, vI z1] (N, L, M) (some (vI r)) X') : WP d 125 33 [l0, l1, l2, l3] (vI z1 :: .ref 82 :: []) (N, L, M) Q = WP d 125 36 [l0, l1, l2, l3] (vI r :: []) X' Q := w_callv (vs := [vI z1]) (by rfl) (by rfl) rfl (Nat.le_of_ble_eq_true rfl) (kd := 9) (by rfl) (by decide) (Or.inl hN) (by rfl) hS
theorem s125_36 {l0 l1 l2 l3 : Value} {z1 : Int} (hz : z1 = 0 ∨ z1 = 1) : WP d 125 36 [l0, l1, l2, l3] (vI z1 :: []) X Q = Q (some (vI z1)) X := w_iretz (by rfl) (by rfl) (nb_bool hz)
theorem s125_36b {l0 l1 l2 l3 : Value} {P : Prop} [Decidable P] : WP d 125 36 [l0, l1, l2, l3] (vI (bI P) :: []) X Q = Q (some (vI (bI P))) X := w_iretz (by rfl) (by rfl) (nb_bool (bI_01 P))
/-! 126 BellsThatEatModel.isDigit -/
theorem e126 {d : Nat} {X : q_H}  {r : Option Value} {X' : q_H} (hd : 1 ≤ d) (h : WP (d - 1) 126 0 [.ref 82] [] X (fun r1 X1 => r1 = r ∧ X1 = X')) : Sp d 126 [.ref 82] X r X' := Sp.of1 hd (vs := [.ref 82]) (ls := [.ref 82]) (by rfl) (by rfl) h
theorem E126 {d : Nat} {X : q_H}  {Q : Option Value → q_H → Prop} (hd : 1 ≤ d) (h : WP (d - 1) 126 0 [.ref 82] [] X Q) : ∃ r X', Sp d 126 [.ref 82] X r X' ∧ Q r X' := Sp.of2 hd (vs := [.ref 82]) (ls := [.ref 82]) (by rfl) (by rfl) h
theorem s126_0  : WP d 126 0 [.ref 82] (st) X Q = WP d 126 1 [.ref 82] (.ref 82 :: st) X Q := w_aload_n (by rfl) rfl (by decide)
theorem s126_1  : WP d 126 1 [.ref 82] (st) X Q = WP d 126 2 [.ref 82] (.ref 82 :: st) X Q := w_aload_n (by rfl) rfl (by decide)
theorem c126_2 {l0 : Value} {x0 : Value} {r : Int} {X' : q_H} (hN : 82 < N) (hS : Sp d 122 [.ref 82] (N, L, M) (some (vI r)) X') : WP d 126 2 [l0] (.ref 82 :: x0 :: []) (N, L, M) Q = WP d 126 5 [l0] (vI r :: x0 :: []) X' Q := w_callv (vs := []) (by rfl) (by rfl) rfl (Nat.le_of_ble_eq_true rfl) (kd := 9) (by rfl) (by decide) (Or.inl hN) (by rfl) hS
theorem s126_5 {l0 : Value}  : WP d 126 5 [l0] (st) X Q = WP d 126 7 [l0] (vI (48) :: st) X Q := w_bipush (by rfl) (by decide)
theorem s126_7 {l0 : Value}  : WP d 126 7 [l0] (st) X Q = WP d 126 9 [l0] (vI (57) :: st) X Q := w_bipush (by rfl) (by decide)
theorem c126_9 {l0 : Value} {z1 : Int} {z2 : Int} {z3 : Int} {r : Int} {X' : q_H} (hN : 82 < N) (hS : Sp d 109 [.ref 82, vI z1, vI z2, vI z3] (N, L, M) (some (vI r)) X') : WP d 126 9 [l0] (vI z3 :: vI z2 :: vI z1 :: .ref 82 :: []) (N, L, M) Q = WP d 126 12 [l0] (vI r :: []) X' Q := w_callv (vs := [vI z1, vI z2, vI z3]) (by rfl) (by rfl) rfl (Nat.le_of_ble_eq_true rfl) (kd := 9) (by rfl) (by decide) (Or.inl hN) (by rfl) hS
theorem s126_12 {l0 : Value} {z1 : Int} (hz : z1 = 0 ∨ z1 = 1) : WP d 126 12 [l0] (vI z1 :: []) X Q = Q (some (vI z1)) X := w_iretz (by rfl) (by rfl) (nb_bool hz)
theorem s126_12b {l0 : Value} {P : Prop} [Decidable P] : WP d 126 12 [l0] (vI (bI P) :: []) X Q = Q (some (vI (bI P))) X := w_iretz (by rfl) (by rfl) (nb_bool (bI_01 P))
/-! 127 BellsThatEatModel.takesNumber -/
theorem e127 {d : Nat} {X : q_H}  {r : Option Value} {X' : q_H} (hd : 1 ≤ d) (h : WP (d - 1) 127 0 [.ref 82, .null] [] X (fun r1 X1 => r1 = r ∧ X1 = X')) : Sp d 127 [.ref 82] X r X' := Sp.of1 hd (vs := [.ref 82]) (ls := [.ref 82, .null]) (by rfl) (by rfl) h
theorem E127 {d : Nat} {X : q_H}  {Q : Option Value → q_H → Prop} (hd : 1 ≤ d) (h : WP (d - 1) 127 0 [.ref 82, .null] [] X Q) : ∃ r X', Sp d 127 [.ref 82] X r X' ∧ Q r X' := Sp.of2 hd (vs := [.ref 82]) (ls := [.ref 82, .null]) (by rfl) (by rfl) h
theorem s127_0 {l1 : Value}  : WP d 127 0 [.ref 82, l1] (st) X Q = WP d 127 1 [.ref 82, l1] (.ref 82 :: st) X Q := w_aload_n (by rfl) rfl (by decide)
theorem c127_1 {l0 l1 : Value} {r : Int} {X' : q_H} (hN : 82 < N) (hS : Sp d 126 [.ref 82] (N, L, M) (some (vI r)) X') : WP d 127 1 [l0, l1] (.ref 82 :: []) (N, L, M) Q = WP d 127 4 [l0, l1] (vI r :: []) X' Q := w_callv (vs := []) (by rfl) (by rfl) rfl (Nat.le_of_ble_eq_true rfl) (kd := 9) (by rfl) (by decide) (Or.inl hN) (by rfl) hS
theorem s127_4 {l0 l1 : Value} {z1 : Int} (h1 : -2147483648 ≤ z1 ∧ z1 ≤ 2147483647) : WP d 127 4 [l0, l1] (vI z1 :: st) X Q = if z1 = 0 then WP d 127 7 [l0, l1] (st) X Q else WP d 127 9 [l0, l1] (st) X Q := w_ifne (by rfl) (by decide) h1
theorem s127_4b {l0 l1 : Value} {P : Prop} [Decidable P] : WP d 127 4 [l0, l1] (vI (bI P) :: st) X Q = if P then WP d 127 9 [l0, l1] (st) X Q else WP d 127 7 [l0, l1] (st) X Q := w_ifneb (by rfl) (by decide)
theorem s127_7 {l0 l1 : Value}  : WP d 127 7 [l0, l1] (st) X Q = WP d 127 8 [l0, l1] (vI (0) :: st) X Q := w_iconst (by rfl)
theorem s127_8 {l0 l1 : Value} {z1 : Int} (hz : z1 = 0 ∨ z1 = 1) : WP d 127 8 [l0, l1] (vI z1 :: []) X Q = Q (some (vI z1)) X := w_iretz (by rfl) (by rfl) (nb_bool hz)
theorem s127_8b {l0 l1 : Value} {P : Prop} [Decidable P] : WP d 127 8 [l0, l1] (vI (bI P) :: []) X Q = Q (some (vI (bI P))) X := w_iretz (by rfl) (by rfl) (nb_bool (bI_01 P))
theorem s127_9 {l1 : Value}  : WP d 127 9 [.ref 82, l1] (st) X Q = WP d 127 10 [.ref 82, l1] (.ref 82 :: st) X Q := w_aload_n (by rfl) rfl (by decide)
theorem s127_10 {l0 l1 : Value}  : WP d 127 10 [l0, l1] (st) X Q = WP d 127 11 [l0, l1] (vI (0) :: st) X Q := w_iconst (by rfl)
theorem s127_11 {l0 l1 : Value} {z1 : Int} (hN : 82 < N) : WP d 127 11 [l0, l1] (vI z1 :: .ref 82 :: st) (N, L, M) Q = WP d 127 14 [l0, l1] (st) (N, L, up M 82 12 (vI z1)) Q := w_putf (ci := 9) (by rfl) (by rfl) (by decide) hN (by rfl) (q_fit_int rfl _)
theorem s127_14 {l0 l1 : Value}  : WP d 127 14 [l0, l1] (st) X Q = WP d 127 15 [l0, l1] (vI (0) :: st) X Q := w_iconst (by rfl)
theorem s127_15 {l1 : Value} {b1 : Nat} {z2 : Int} : WP d 127 15 [.ref b1, l1] (vI z2 :: st) X Q = WP d 127 16 [.ref b1, vI z2] (st) X Q := w_istore_n (by rfl) (q_okb_s rfl rfl) (Nat.le_of_ble_eq_true rfl) rfl
theorem s127_16 {l0 : Value} {z1 : Int} : WP d 127 16 [l0, vI z1] (st) X Q = WP d 127 17 [l0, vI z1] (vI z1 :: st) X Q := w_iload_n (by rfl) rfl
theorem s127_17 {l0 l1 : Value}  : WP d 127 17 [l0, l1] (st) X Q = WP d 127 18 [l0, l1] (vI (2) :: st) X Q := w_iconst (by rfl)
theorem s127_18 {l0 l1 : Value} {z1 : Int} {z2 : Int} (h1 : -2147483648 ≤ z1 ∧ z1 ≤ 2147483647) (h2 : -2147483648 ≤ z2 ∧ z2 ≤ 2147483647) : WP d 127 18 [l0, l1] (vI z2 :: vI z1 :: st) X Q = if z1 < z2 then WP d 127 21 [l0, l1] (st) X Q else WP d 127 63 [l0, l1] (st) X Q := w_icmpge (by rfl) (by decide) h1 h2
theorem s127_21 {l1 : Value}  : WP d 127 21 [.ref 82, l1] (st) X Q = WP d 127 22 [.ref 82, l1] (.ref 82 :: st) X Q := w_aload_n (by rfl) rfl (by decide)
theorem c127_22 {l0 l1 : Value} {r : Int} {X' : q_H} (hN : 82 < N) (hS : Sp d 126 [.ref 82] (N, L, M) (some (vI r)) X') : WP d 127 22 [l0, l1] (.ref 82 :: []) (N, L, M) Q = WP d 127 25 [l0, l1] (vI r :: []) X' Q := w_callv (vs := []) (by rfl) (by rfl) rfl (Nat.le_of_ble_eq_true rfl) (kd := 9) (by rfl) (by decide) (Or.inl hN) (by rfl) hS
theorem s127_25 {l0 l1 : Value} {z1 : Int} (h1 : -2147483648 ≤ z1 ∧ z1 ≤ 2147483647) : WP d 127 25 [l0, l1] (vI z1 :: st) X Q = if z1 = 0 then WP d 127 63 [l0, l1] (st) X Q else WP d 127 28 [l0, l1] (st) X Q := w_ifeq (by rfl) (by decide) h1
theorem s127_25b {l0 l1 : Value} {P : Prop} [Decidable P] : WP d 127 25 [l0, l1] (vI (bI P) :: st) X Q = if P then WP d 127 28 [l0, l1] (st) X Q else WP d 127 63 [l0, l1] (st) X Q := w_ifeqb (by rfl) (by decide)
theorem s127_28 {l1 : Value}  : WP d 127 28 [.ref 82, l1] (st) X Q = WP d 127 29 [.ref 82, l1] (.ref 82 :: st) X Q := w_aload_n (by rfl) rfl (by decide)
theorem s127_29 {l0 l1 : Value}  : WP d 127 29 [l0, l1] (st) X Q = WP d 127 31 [l0, l1] (vI (10) :: st) X Q := w_bipush (by rfl) (by decide)
theorem s127_31 {l1 : Value}  : WP d 127 31 [.ref 82, l1] (st) X Q = WP d 127 32 [.ref 82, l1] (.ref 82 :: st) X Q := w_aload_n (by rfl) rfl (by decide)
theorem s127_32 {l0 l1 : Value} (hN : 82 < N) : WP d 127 32 [l0, l1] (.ref 82 :: st) (N, L, M) Q = WP d 127 35 [l0, l1] (M 82 12 :: st) (N, L, M) Q := w_getf (by rfl) (by rfl) hN (by decide) (by rfl)
theorem s127_35 {l0 l1 : Value} {z1 : Int} {z2 : Int} : WP d 127 35 [l0, l1] (vI z2 :: vI z1 :: st) X Q = WP d 127 36 [l0, l1] (vI (z1 * z2) :: st) X Q := w_imul (by rfl)
theorem s127_36 {l1 : Value}  : WP d 127 36 [.ref 82, l1] (st) X Q = WP d 127 37 [.ref 82, l1] (.ref 82 :: st) X Q := w_aload_n (by rfl) rfl (by decide)
theorem c127_37 {l0 l1 : Value} {x0 x1 : Value} {r : Int} {X' : q_H} (hN : 82 < N) (hS : Sp d 122 [.ref 82] (N, L, M) (some (vI r)) X') : WP d 127 37 [l0, l1] (.ref 82 :: x0 :: x1 :: []) (N, L, M) Q = WP d 127 40 [l0, l1] (vI r :: x0 :: x1 :: []) X' Q := w_callv (vs := []) (by rfl) (by rfl) rfl (Nat.le_of_ble_eq_true rfl) (kd := 9) (by rfl) (by decide) (Or.inl hN) (by rfl) hS
theorem s127_40 {l0 l1 : Value} {z1 : Int} {z2 : Int} : WP d 127 40 [l0, l1] (vI z2 :: vI z1 :: st) X Q = WP d 127 41 [l0, l1] (vI (z1 + z2) :: st) X Q := w_iadd (by rfl)
theorem s127_41 {l0 l1 : Value}  : WP d 127 41 [l0, l1] (st) X Q = WP d 127 43 [l0, l1] (vI (48) :: st) X Q := w_bipush (by rfl) (by decide)
theorem s127_43 {l0 l1 : Value} {z1 : Int} {z2 : Int} : WP d 127 43 [l0, l1] (vI z2 :: vI z1 :: st) X Q = WP d 127 44 [l0, l1] (vI (z1 - z2) :: st) X Q := w_isub (by rfl)
theorem s127_44 {l0 l1 : Value} {z1 : Int} (hN : 82 < N) : WP d 127 44 [l0, l1] (vI z1 :: .ref 82 :: st) (N, L, M) Q = WP d 127 47 [l0, l1] (st) (N, L, up M 82 12 (vI z1)) Q := w_putf (ci := 9) (by rfl) (by rfl) (by decide) hN (by rfl) (q_fit_int rfl _)
theorem s127_47 {l1 : Value}  : WP d 127 47 [.ref 82, l1] (st) X Q = WP d 127 48 [.ref 82, l1] (.ref 82 :: st) X Q := w_aload_n (by rfl) rfl (by decide)
theorem s127_48 {l0 l1 : Value} {a1 : Nat} : WP d 127 48 [l0, l1] (.ref a1 :: st) X Q = WP d 127 49 [l0, l1] (.ref a1 :: .ref a1 :: st) X Q := w_dup (by rfl) rfl
theorem s127_49 {l0 l1 : Value} (hN : 82 < N) : WP d 127 49 [l0, l1] (.ref 82 :: st) (N, L, M) Q = WP d 127 52 [l0, l1] (M 82 11 :: st) (N, L, M) Q := w_getf (by rfl) (by rfl) hN (by decide) (by rfl)
theorem s127_52 {l0 l1 : Value}  : WP d 127 52 [l0, l1] (st) X Q = WP d 127 53 [l0, l1] (vI (1) :: st) X Q := w_iconst (by rfl)
theorem s127_53 {l0 l1 : Value} {z1 : Int} {z2 : Int} : WP d 127 53 [l0, l1] (vI z2 :: vI z1 :: st) X Q = WP d 127 54 [l0, l1] (vI (z1 + z2) :: st) X Q := w_iadd (by rfl)
theorem s127_54 {l0 l1 : Value} {z1 : Int} (hN : 82 < N) : WP d 127 54 [l0, l1] (vI z1 :: .ref 82 :: st) (N, L, M) Q = WP d 127 57 [l0, l1] (st) (N, L, up M 82 11 (vI z1)) Q := w_putf (ci := 9) (by rfl) (by rfl) (by decide) hN (by rfl) (q_fit_int rfl _)
theorem s127_57 {z1 : Int} {b2 : Nat} : WP d 127 57 [.ref b2, vI z1] (st) X Q = WP d 127 60 [.ref b2, vI (z1 + 1)] (st) X Q := w_iinc (by rfl) rfl (q_okb_s rfl rfl) (Nat.le_of_ble_eq_true rfl) rfl
theorem s127_60 {l0 l1 : Value}  : WP d 127 60 [l0, l1] (st) X Q = WP d 127 16 [l0, l1] (st) X Q := w_goto (by rfl) (by decide)
theorem s127_63 {l0 l1 : Value}  : WP d 127 63 [l0, l1] (st) X Q = WP d 127 64 [l0, l1] (vI (1) :: st) X Q := w_iconst (by rfl)
theorem s127_64 {l0 l1 : Value} {z1 : Int} (hz : z1 = 0 ∨ z1 = 1) : WP d 127 64 [l0, l1] (vI z1 :: []) X Q = Q (some (vI z1)) X := w_iretz (by rfl) (by rfl) (nb_bool hz)
theorem s127_64b {l0 l1 : Value} {P : Prop} [Decidable P] : WP d 127 64 [l0, l1] (vI (bI P) :: []) X Q = Q (some (vI (bI P))) X := w_iretz (by rfl) (by rfl) (nb_bool (bI_01 P))
/-! 128 BellsThatEatModel.emits -/
theorem e128 {d : Nat} {X : q_H} {z1 : Int} {r : Option Value} {X' : q_H} (hd : 1 ≤ d) (h : WP (d - 1) 128 0 [.ref 82, vI z1] [] X (fun r1 X1 => r1 = r ∧ X1 = X')) : Sp d 128 [.ref 82, vI z1] X r X' := Sp.of1 hd (vs := [.ref 82, vI z1]) (ls := [.ref 82, vI z1]) (by rfl) (by rfl) h
theorem E128 {d : Nat} {X : q_H} {z1 : Int} {Q : Option Value → q_H → Prop} (hd : 1 ≤ d) (h : WP (d - 1) 128 0 [.ref 82, vI z1] [] X Q) : ∃ r X', Sp d 128 [.ref 82, vI z1] X r X' ∧ Q r X' := Sp.of2 hd (vs := [.ref 82, vI z1]) (ls := [.ref 82, vI z1]) (by rfl) (by rfl) h
theorem s128_0 {l1 : Value}  : WP d 128 0 [.ref 82, l1] (st) X Q = WP d 128 1 [.ref 82, l1] (.ref 82 :: st) X Q := w_aload_n (by rfl) rfl (by decide)
theorem s128_1 {l0 l1 : Value} (hN : 82 < N) : WP d 128 1 [l0, l1] (.ref 82 :: st) (N, L, M) Q = WP d 128 4 [l0, l1] (M 82 19 :: st) (N, L, M) Q := w_getf (by rfl) (by rfl) hN (by decide) (by rfl)
theorem s128_4 {l1 : Value}  : WP d 128 4 [.ref 82, l1] (st) X Q = WP d 128 5 [.ref 82, l1] (.ref 82 :: st) X Q := w_aload_n (by rfl) rfl (by decide)
theorem s128_5 {l0 l1 : Value} (hN : 82 < N) : WP d 128 5 [l0, l1] (.ref 82 :: st) (N, L, M) Q = WP d 128 8 [l0, l1] (M 82 21 :: st) (N, L, M) Q := w_getf (by rfl) (by rfl) hN (by decide) (by rfl)
theorem s128_8 {l0 : Value} {z1 : Int} : WP d 128 8 [l0, vI z1] (st) X Q = WP d 128 9 [l0, vI z1] (vI z1 :: st) X Q := w_iload_n (by rfl) rfl
theorem s128_9 {l0 l1 : Value} {j1 : Int} {z2 : Int} (hj : 0 ≤ j1 ∧ j1 < 600) (hN : 94 < N) : WP d 128 9 [l0, l1] (vI z2 :: vI j1 :: .ref 94 :: st) (N, L, M) Q = WP d 128 10 [l0, l1] (st) (N, L, up M 94 j1.toNat (vI z2)) Q := w_iast (by rfl) (m := 600) (by rfl) hN hj (by decide)
theorem s128_10 {l1 : Value}  : WP d 128 10 [.ref 82, l1] (st) X Q = WP d 128 11 [.ref 82, l1] (.ref 82 :: st) X Q := w_aload_n (by rfl) rfl (by decide)
theorem s128_11 {l0 l1 : Value} {a1 : Nat} : WP d 128 11 [l0, l1] (.ref a1 :: st) X Q = WP d 128 12 [l0, l1] (.ref a1 :: .ref a1 :: st) X Q := w_dup (by rfl) rfl
theorem s128_12 {l0 l1 : Value} (hN : 82 < N) : WP d 128 12 [l0, l1] (.ref 82 :: st) (N, L, M) Q = WP d 128 15 [l0, l1] (M 82 21 :: st) (N, L, M) Q := w_getf (by rfl) (by rfl) hN (by decide) (by rfl)
theorem s128_15 {l0 l1 : Value}  : WP d 128 15 [l0, l1] (st) X Q = WP d 128 16 [l0, l1] (vI (1) :: st) X Q := w_iconst (by rfl)
theorem s128_16 {l0 l1 : Value} {z1 : Int} {z2 : Int} : WP d 128 16 [l0, l1] (vI z2 :: vI z1 :: st) X Q = WP d 128 17 [l0, l1] (vI (z1 + z2) :: st) X Q := w_iadd (by rfl)
theorem s128_17 {l0 l1 : Value} {z1 : Int} (hN : 82 < N) : WP d 128 17 [l0, l1] (vI z1 :: .ref 82 :: st) (N, L, M) Q = WP d 128 20 [l0, l1] (st) (N, L, up M 82 21 (vI z1)) Q := w_putf (ci := 9) (by rfl) (by rfl) (by decide) hN (by rfl) (q_fit_int rfl _)
theorem s128_20 {l0 l1 : Value}  : WP d 128 20 [l0, l1] ([]) X Q = Q none X := w_vret (by rfl) (by rfl)
/-! 129 BellsThatEatModel.whole -/
theorem e129 {d : Nat} {X : q_H}  {r : Option Value} {X' : q_H} (hd : 1 ≤ d) (h : WP (d - 1) 129 0 [.ref 82] [] X (fun r1 X1 => r1 = r ∧ X1 = X')) : Sp d 129 [.ref 82] X r X' := Sp.of1 hd (vs := [.ref 82]) (ls := [.ref 82]) (by rfl) (by rfl) h
theorem E129 {d : Nat} {X : q_H}  {Q : Option Value → q_H → Prop} (hd : 1 ≤ d) (h : WP (d - 1) 129 0 [.ref 82] [] X Q) : ∃ r X', Sp d 129 [.ref 82] X r X' ∧ Q r X' := Sp.of2 hd (vs := [.ref 82]) (ls := [.ref 82]) (by rfl) (by rfl) h
theorem s129_0  : WP d 129 0 [.ref 82] (st) X Q = WP d 129 1 [.ref 82] (.ref 82 :: st) X Q := w_aload_n (by rfl) rfl (by decide)
theorem s129_1 {l0 : Value} (hN : 82 < N) : WP d 129 1 [l0] (.ref 82 :: st) (N, L, M) Q = WP d 129 4 [l0] (M 82 22 :: st) (N, L, M) Q := w_getf (by rfl) (by rfl) hN (by decide) (by rfl)
theorem s129_4 {l0 : Value} {z1 : Int} (h1 : -2147483648 ≤ z1 ∧ z1 ≤ 2147483647) : WP d 129 4 [l0] (vI z1 :: st) X Q = if 0 < z1 then WP d 129 7 [l0] (st) X Q else WP d 129 52 [l0] (st) X Q := w_ifle (by rfl) (by decide) h1
theorem s129_7  : WP d 129 7 [.ref 82] (st) X Q = WP d 129 8 [.ref 82] (.ref 82 :: st) X Q := w_aload_n (by rfl) rfl (by decide)
theorem s129_8 {l0 : Value} (hN : 82 < N) : WP d 129 8 [l0] (.ref 82 :: st) (N, L, M) Q = WP d 129 11 [l0] (M 82 20 :: st) (N, L, M) Q := w_getf (by rfl) (by rfl) hN (by decide) (by rfl)
theorem s129_11  : WP d 129 11 [.ref 82] (st) X Q = WP d 129 12 [.ref 82] (.ref 82 :: st) X Q := w_aload_n (by rfl) rfl (by decide)
theorem s129_12 {l0 : Value} (hN : 82 < N) : WP d 129 12 [l0] (.ref 82 :: st) (N, L, M) Q = WP d 129 15 [l0] (M 82 22 :: st) (N, L, M) Q := w_getf (by rfl) (by rfl) hN (by decide) (by rfl)
theorem s129_15 {l0 : Value}  : WP d 129 15 [l0] (st) X Q = WP d 129 16 [l0] (vI (1) :: st) X Q := w_iconst (by rfl)
theorem s129_16 {l0 : Value} {z1 : Int} {z2 : Int} : WP d 129 16 [l0] (vI z2 :: vI z1 :: st) X Q = WP d 129 17 [l0] (vI (z1 - z2) :: st) X Q := w_isub (by rfl)
theorem s129_17 {l0 : Value} {j1 : Int} (hj : 0 ≤ j1 ∧ j1 < 101) (hN : 95 < N) : WP d 129 17 [l0] (vI j1 :: .ref 95 :: st) (N, L, M) Q = WP d 129 18 [l0] (M 95 j1.toNat :: st) (N, L, M) Q := w_iald (by rfl) (m := 101) (by rfl) hN (by decide) hj (by decide)
theorem s129_18 {l0 : Value}  : WP d 129 18 [l0] (st) X Q = WP d 129 20 [l0] (vI (33) :: st) X Q := w_bipush (by rfl) (by decide)
theorem s129_20 {l0 : Value} {z1 : Int} {z2 : Int} (h1 : -2147483648 ≤ z1 ∧ z1 ≤ 2147483647) (h2 : -2147483648 ≤ z2 ∧ z2 ≤ 2147483647) : WP d 129 20 [l0] (vI z2 :: vI z1 :: st) X Q = if z1 = z2 then WP d 129 23 [l0] (st) X Q else WP d 129 52 [l0] (st) X Q := w_icmpne (by rfl) (by decide) h1 h2
theorem s129_20b {l0 : Value} {P R : Prop} [Decidable P] [Decidable R] : WP d 129 20 [l0] (vI (bI R) :: vI (bI P) :: st) X Q = if (P ↔ R) then WP d 129 23 [l0] (st) X Q else WP d 129 52 [l0] (st) X Q := w_icmpneb (by rfl) (by decide)
theorem s129_23  : WP d 129 23 [.ref 82] (st) X Q = WP d 129 24 [.ref 82] (.ref 82 :: st) X Q := w_aload_n (by rfl) rfl (by decide)
theorem s129_24 {l0 : Value}  : WP d 129 24 [l0] (st) X Q = WP d 129 26 [l0] (vI (-33) :: st) X Q := w_bipush (by rfl) (by decide)
theorem c129_26 {l0 : Value} {z1 : Int} {X' : q_H} (hN : 82 < N) (hS : Sp d 128 [.ref 82, vI z1] (N, L, M) none X') : WP d 129 26 [l0] (vI z1 :: .ref 82 :: []) (N, L, M) Q = WP d 129 29 [l0] ([]) X' Q := w_callv (vs := [vI z1]) (by rfl) (by rfl) rfl (Nat.le_of_ble_eq_true rfl) (kd := 9) (by rfl) (by decide) (Or.inl hN) (by rfl) hS
theorem s129_29  : WP d 129 29 [.ref 82] (st) X Q = WP d 129 30 [.ref 82] (.ref 82 :: st) X Q := w_aload_n (by rfl) rfl (by decide)
theorem s129_30 {l0 : Value} {a1 : Nat} : WP d 129 30 [l0] (.ref a1 :: st) X Q = WP d 129 31 [l0] (.ref a1 :: .ref a1 :: st) X Q := w_dup (by rfl) rfl
theorem s129_31 {l0 : Value} (hN : 82 < N) : WP d 129 31 [l0] (.ref 82 :: st) (N, L, M) Q = WP d 129 34 [l0] (M 82 22 :: st) (N, L, M) Q := w_getf (by rfl) (by rfl) hN (by decide) (by rfl)
theorem s129_34 {l0 : Value}  : WP d 129 34 [l0] (st) X Q = WP d 129 35 [l0] (vI (1) :: st) X Q := w_iconst (by rfl)
theorem s129_35 {l0 : Value} {z1 : Int} {z2 : Int} : WP d 129 35 [l0] (vI z2 :: vI z1 :: st) X Q = WP d 129 36 [l0] (vI (z1 - z2) :: st) X Q := w_isub (by rfl)
theorem s129_36 {l0 : Value} {z1 : Int} (hN : 82 < N) : WP d 129 36 [l0] (vI z1 :: .ref 82 :: st) (N, L, M) Q = WP d 129 39 [l0] (st) (N, L, up M 82 22 (vI z1)) Q := w_putf (ci := 9) (by rfl) (by rfl) (by decide) hN (by rfl) (q_fit_int rfl _)
theorem s129_39  : WP d 129 39 [.ref 82] (st) X Q = WP d 129 40 [.ref 82] (.ref 82 :: st) X Q := w_aload_n (by rfl) rfl (by decide)
theorem s129_40 {l0 : Value} {a1 : Nat} : WP d 129 40 [l0] (.ref a1 :: st) X Q = WP d 129 41 [l0] (.ref a1 :: .ref a1 :: st) X Q := w_dup (by rfl) rfl
theorem s129_41 {l0 : Value} (hN : 82 < N) : WP d 129 41 [l0] (.ref 82 :: st) (N, L, M) Q = WP d 129 44 [l0] (M 82 23 :: st) (N, L, M) Q := w_getf (by rfl) (by rfl) hN (by decide) (by rfl)
theorem s129_44 {l0 : Value}  : WP d 129 44 [l0] (st) X Q = WP d 129 45 [l0] (vI (1) :: st) X Q := w_iconst (by rfl)
theorem s129_45 {l0 : Value} {z1 : Int} {z2 : Int} : WP d 129 45 [l0] (vI z2 :: vI z1 :: st) X Q = WP d 129 46 [l0] (vI (z1 - z2) :: st) X Q := w_isub (by rfl)
theorem s129_46 {l0 : Value} {z1 : Int} (hN : 82 < N) : WP d 129 46 [l0] (vI z1 :: .ref 82 :: st) (N, L, M) Q = WP d 129 49 [l0] (st) (N, L, up M 82 23 (vI z1)) Q := w_putf (ci := 9) (by rfl) (by rfl) (by decide) hN (by rfl) (q_fit_int rfl _)
theorem s129_49 {l0 : Value}  : WP d 129 49 [l0] (st) X Q = WP d 129 0 [l0] (st) X Q := w_goto (by rfl) (by decide)
theorem s129_52 {l0 : Value}  : WP d 129 52 [l0] ([]) X Q = Q none X := w_vret (by rfl) (by rfl)
/-! 130 BellsThatEatModel.settle -/
theorem e130 {d : Nat} {X : q_H} {z1 : Int} {r : Option Value} {X' : q_H} (hd : 1 ≤ d) (h : WP (d - 1) 130 0 [.ref 82, vI z1] [] X (fun r1 X1 => r1 = r ∧ X1 = X')) : Sp d 130 [.ref 82, vI z1] X r X' := Sp.of1 hd (vs := [.ref 82, vI z1]) (ls := [.ref 82, vI z1]) (by rfl) (by rfl) h
theorem E130 {d : Nat} {X : q_H} {z1 : Int} {Q : Option Value → q_H → Prop} (hd : 1 ≤ d) (h : WP (d - 1) 130 0 [.ref 82, vI z1] [] X Q) : ∃ r X', Sp d 130 [.ref 82, vI z1] X r X' ∧ Q r X' := Sp.of2 hd (vs := [.ref 82, vI z1]) (ls := [.ref 82, vI z1]) (by rfl) (by rfl) h
theorem s130_0 {l1 : Value}  : WP d 130 0 [.ref 82, l1] (st) X Q = WP d 130 1 [.ref 82, l1] (.ref 82 :: st) X Q := w_aload_n (by rfl) rfl (by decide)
theorem s130_1 {l0 l1 : Value} (hN : 82 < N) : WP d 130 1 [l0, l1] (.ref 82 :: st) (N, L, M) Q = WP d 130 4 [l0, l1] (M 82 22 :: st) (N, L, M) Q := w_getf (by rfl) (by rfl) hN (by decide) (by rfl)
theorem s130_4 {l0 l1 : Value} {z1 : Int} (h1 : -2147483648 ≤ z1 ∧ z1 ≤ 2147483647) : WP d 130 4 [l0, l1] (vI z1 :: st) X Q = if 0 < z1 then WP d 130 7 [l0, l1] (st) X Q else WP d 130 72 [l0, l1] (st) X Q := w_ifle (by rfl) (by decide) h1
theorem s130_7 {l1 : Value}  : WP d 130 7 [.ref 82, l1] (st) X Q = WP d 130 8 [.ref 82, l1] (.ref 82 :: st) X Q := w_aload_n (by rfl) rfl (by decide)
theorem s130_8 {l0 l1 : Value} (hN : 82 < N) : WP d 130 8 [l0, l1] (.ref 82 :: st) (N, L, M) Q = WP d 130 11 [l0, l1] (M 82 20 :: st) (N, L, M) Q := w_getf (by rfl) (by rfl) hN (by decide) (by rfl)
theorem s130_11 {l1 : Value}  : WP d 130 11 [.ref 82, l1] (st) X Q = WP d 130 12 [.ref 82, l1] (.ref 82 :: st) X Q := w_aload_n (by rfl) rfl (by decide)
theorem s130_12 {l0 l1 : Value} (hN : 82 < N) : WP d 130 12 [l0, l1] (.ref 82 :: st) (N, L, M) Q = WP d 130 15 [l0, l1] (M 82 22 :: st) (N, L, M) Q := w_getf (by rfl) (by rfl) hN (by decide) (by rfl)
theorem s130_15 {l0 l1 : Value}  : WP d 130 15 [l0, l1] (st) X Q = WP d 130 16 [l0, l1] (vI (1) :: st) X Q := w_iconst (by rfl)
theorem s130_16 {l0 l1 : Value} {z1 : Int} {z2 : Int} : WP d 130 16 [l0, l1] (vI z2 :: vI z1 :: st) X Q = WP d 130 17 [l0, l1] (vI (z1 - z2) :: st) X Q := w_isub (by rfl)
theorem s130_17 {l0 l1 : Value} {j1 : Int} (hj : 0 ≤ j1 ∧ j1 < 101) (hN : 95 < N) : WP d 130 17 [l0, l1] (vI j1 :: .ref 95 :: st) (N, L, M) Q = WP d 130 18 [l0, l1] (M 95 j1.toNat :: st) (N, L, M) Q := w_iald (by rfl) (m := 101) (by rfl) hN (by decide) hj (by decide)
theorem s130_18 {l0 l1 : Value}  : WP d 130 18 [l0, l1] (st) X Q = WP d 130 20 [l0, l1] (vI (38) :: st) X Q := w_bipush (by rfl) (by decide)
theorem s130_20 {l0 l1 : Value} {z1 : Int} {z2 : Int} (h1 : -2147483648 ≤ z1 ∧ z1 ≤ 2147483647) (h2 : -2147483648 ≤ z2 ∧ z2 ≤ 2147483647) : WP d 130 20 [l0, l1] (vI z2 :: vI z1 :: st) X Q = if z1 = z2 then WP d 130 45 [l0, l1] (st) X Q else WP d 130 23 [l0, l1] (st) X Q := w_icmpeq (by rfl) (by decide) h1 h2
theorem s130_20b {l0 l1 : Value} {P R : Prop} [Decidable P] [Decidable R] : WP d 130 20 [l0, l1] (vI (bI R) :: vI (bI P) :: st) X Q = if (P ↔ R) then WP d 130 45 [l0, l1] (st) X Q else WP d 130 23 [l0, l1] (st) X Q := w_icmpeqb (by rfl) (by decide)
theorem s130_23 {l1 : Value}  : WP d 130 23 [.ref 82, l1] (st) X Q = WP d 130 24 [.ref 82, l1] (.ref 82 :: st) X Q := w_aload_n (by rfl) rfl (by decide)
theorem s130_24 {l0 l1 : Value} (hN : 82 < N) : WP d 130 24 [l0, l1] (.ref 82 :: st) (N, L, M) Q = WP d 130 27 [l0, l1] (M 82 20 :: st) (N, L, M) Q := w_getf (by rfl) (by rfl) hN (by decide) (by rfl)
theorem s130_27 {l1 : Value}  : WP d 130 27 [.ref 82, l1] (st) X Q = WP d 130 28 [.ref 82, l1] (.ref 82 :: st) X Q := w_aload_n (by rfl) rfl (by decide)
theorem s130_28 {l0 l1 : Value} (hN : 82 < N) : WP d 130 28 [l0, l1] (.ref 82 :: st) (N, L, M) Q = WP d 130 31 [l0, l1] (M 82 22 :: st) (N, L, M) Q := w_getf (by rfl) (by rfl) hN (by decide) (by rfl)
theorem s130_31 {l0 l1 : Value}  : WP d 130 31 [l0, l1] (st) X Q = WP d 130 32 [l0, l1] (vI (1) :: st) X Q := w_iconst (by rfl)
theorem s130_32 {l0 l1 : Value} {z1 : Int} {z2 : Int} : WP d 130 32 [l0, l1] (vI z2 :: vI z1 :: st) X Q = WP d 130 33 [l0, l1] (vI (z1 - z2) :: st) X Q := w_isub (by rfl)
theorem s130_33 {l0 l1 : Value} {j1 : Int} (hj : 0 ≤ j1 ∧ j1 < 101) (hN : 95 < N) : WP d 130 33 [l0, l1] (vI j1 :: .ref 95 :: st) (N, L, M) Q = WP d 130 34 [l0, l1] (M 95 j1.toNat :: st) (N, L, M) Q := w_iald (by rfl) (m := 101) (by rfl) hN (by decide) hj (by decide)
theorem s130_34 {l0 l1 : Value}  : WP d 130 34 [l0, l1] (st) X Q = WP d 130 36 [l0, l1] (vI (124) :: st) X Q := w_bipush (by rfl) (by decide)
theorem s130_36 {l0 l1 : Value} {z1 : Int} {z2 : Int} (h1 : -2147483648 ≤ z1 ∧ z1 ≤ 2147483647) (h2 : -2147483648 ≤ z2 ∧ z2 ≤ 2147483647) : WP d 130 36 [l0, l1] (vI z2 :: vI z1 :: st) X Q = if z1 = z2 then WP d 130 39 [l0, l1] (st) X Q else WP d 130 72 [l0, l1] (st) X Q := w_icmpne (by rfl) (by decide) h1 h2
theorem s130_36b {l0 l1 : Value} {P R : Prop} [Decidable P] [Decidable R] : WP d 130 36 [l0, l1] (vI (bI R) :: vI (bI P) :: st) X Q = if (P ↔ R) then WP d 130 39 [l0, l1] (st) X Q else WP d 130 72 [l0, l1] (st) X Q := w_icmpneb (by rfl) (by decide)
theorem s130_39 {l0 : Value} {z1 : Int} : WP d 130 39 [l0, vI z1] (st) X Q = WP d 130 40 [l0, vI z1] (vI z1 :: st) X Q := w_iload_n (by rfl) rfl
theorem s130_40 {l0 l1 : Value}  : WP d 130 40 [l0, l1] (st) X Q = WP d 130 42 [l0, l1] (vI (38) :: st) X Q := w_bipush (by rfl) (by decide)
theorem s130_42 {l0 l1 : Value} {z1 : Int} {z2 : Int} (h1 : -2147483648 ≤ z1 ∧ z1 ≤ 2147483647) (h2 : -2147483648 ≤ z2 ∧ z2 ≤ 2147483647) : WP d 130 42 [l0, l1] (vI z2 :: vI z1 :: st) X Q = if z1 = z2 then WP d 130 72 [l0, l1] (st) X Q else WP d 130 45 [l0, l1] (st) X Q := w_icmpeq (by rfl) (by decide) h1 h2
theorem s130_42b {l0 l1 : Value} {P R : Prop} [Decidable P] [Decidable R] : WP d 130 42 [l0, l1] (vI (bI R) :: vI (bI P) :: st) X Q = if (P ↔ R) then WP d 130 72 [l0, l1] (st) X Q else WP d 130 45 [l0, l1] (st) X Q := w_icmpeqb (by rfl) (by decide)
theorem s130_45 {l1 : Value}  : WP d 130 45 [.ref 82, l1] (st) X Q = WP d 130 46 [.ref 82, l1] (.ref 82 :: st) X Q := w_aload_n (by rfl) rfl (by decide)
theorem s130_46 {l0 l1 : Value} {a1 : Nat} : WP d 130 46 [l0, l1] (.ref a1 :: st) X Q = WP d 130 47 [l0, l1] (.ref a1 :: .ref a1 :: st) X Q := w_dup (by rfl) rfl
theorem s130_47 {l0 l1 : Value} (hN : 82 < N) : WP d 130 47 [l0, l1] (.ref 82 :: st) (N, L, M) Q = WP d 130 50 [l0, l1] (M 82 22 :: st) (N, L, M) Q := w_getf (by rfl) (by rfl) hN (by decide) (by rfl)
theorem s130_50 {l0 l1 : Value}  : WP d 130 50 [l0, l1] (st) X Q = WP d 130 51 [l0, l1] (vI (1) :: st) X Q := w_iconst (by rfl)
theorem s130_51 {l0 l1 : Value} {z1 : Int} {z2 : Int} : WP d 130 51 [l0, l1] (vI z2 :: vI z1 :: st) X Q = WP d 130 52 [l0, l1] (vI (z1 - z2) :: st) X Q := w_isub (by rfl)
theorem s130_52 {l0 l1 : Value} {z1 : Int} (hN : 82 < N) : WP d 130 52 [l0, l1] (vI z1 :: .ref 82 :: st) (N, L, M) Q = WP d 130 55 [l0, l1] (st) (N, L, up M 82 22 (vI z1)) Q := w_putf (ci := 9) (by rfl) (by rfl) (by decide) hN (by rfl) (q_fit_int rfl _)
theorem s130_55 {l1 : Value}  : WP d 130 55 [.ref 82, l1] (st) X Q = WP d 130 56 [.ref 82, l1] (.ref 82 :: st) X Q := w_aload_n (by rfl) rfl (by decide)
theorem s130_56 {l1 : Value}  : WP d 130 56 [.ref 82, l1] (st) X Q = WP d 130 57 [.ref 82, l1] (.ref 82 :: st) X Q := w_aload_n (by rfl) rfl (by decide)
theorem s130_57 {l0 l1 : Value} (hN : 82 < N) : WP d 130 57 [l0, l1] (.ref 82 :: st) (N, L, M) Q = WP d 130 60 [l0, l1] (M 82 20 :: st) (N, L, M) Q := w_getf (by rfl) (by rfl) hN (by decide) (by rfl)
theorem s130_60 {l1 : Value}  : WP d 130 60 [.ref 82, l1] (st) X Q = WP d 130 61 [.ref 82, l1] (.ref 82 :: st) X Q := w_aload_n (by rfl) rfl (by decide)
theorem s130_61 {l0 l1 : Value} (hN : 82 < N) : WP d 130 61 [l0, l1] (.ref 82 :: st) (N, L, M) Q = WP d 130 64 [l0, l1] (M 82 22 :: st) (N, L, M) Q := w_getf (by rfl) (by rfl) hN (by decide) (by rfl)
theorem s130_64 {l0 l1 : Value} {j1 : Int} (hj : 0 ≤ j1 ∧ j1 < 101) (hN : 95 < N) : WP d 130 64 [l0, l1] (vI j1 :: .ref 95 :: st) (N, L, M) Q = WP d 130 65 [l0, l1] (M 95 j1.toNat :: st) (N, L, M) Q := w_iald (by rfl) (m := 101) (by rfl) hN (by decide) hj (by decide)
theorem s130_65 {l0 l1 : Value} {z1 : Int} : WP d 130 65 [l0, l1] (vI z1 :: st) X Q = WP d 130 66 [l0, l1] (vI (-z1) :: st) X Q := w_ineg (by rfl)
theorem c130_66 {l0 l1 : Value} {z1 : Int} {X' : q_H} (hN : 82 < N) (hS : Sp d 128 [.ref 82, vI z1] (N, L, M) none X') : WP d 130 66 [l0, l1] (vI z1 :: .ref 82 :: []) (N, L, M) Q = WP d 130 69 [l0, l1] ([]) X' Q := w_callv (vs := [vI z1]) (by rfl) (by rfl) rfl (Nat.le_of_ble_eq_true rfl) (kd := 9) (by rfl) (by decide) (Or.inl hN) (by rfl) hS
theorem s130_69 {l0 l1 : Value}  : WP d 130 69 [l0, l1] (st) X Q = WP d 130 0 [l0, l1] (st) X Q := w_goto (by rfl) (by decide)
theorem s130_72 {l0 l1 : Value}  : WP d 130 72 [l0, l1] ([]) X Q = Q none X := w_vret (by rfl) (by rfl)
/-! 131 BellsThatEatModel.place -/
theorem e131 {d : Nat} {X : q_H} {z1 : Int} {r : Option Value} {X' : q_H} (hd : 1 ≤ d) (h : WP (d - 1) 131 0 [.ref 82, vI z1] [] X (fun r1 X1 => r1 = r ∧ X1 = X')) : Sp d 131 [.ref 82, vI z1] X r X' := Sp.of1 hd (vs := [.ref 82, vI z1]) (ls := [.ref 82, vI z1]) (by rfl) (by rfl) h
theorem E131 {d : Nat} {X : q_H} {z1 : Int} {Q : Option Value → q_H → Prop} (hd : 1 ≤ d) (h : WP (d - 1) 131 0 [.ref 82, vI z1] [] X Q) : ∃ r X', Sp d 131 [.ref 82, vI z1] X r X' ∧ Q r X' := Sp.of2 hd (vs := [.ref 82, vI z1]) (ls := [.ref 82, vI z1]) (by rfl) (by rfl) h
theorem s131_0 {l0 : Value} {z1 : Int} : WP d 131 0 [l0, vI z1] (st) X Q = WP d 131 1 [l0, vI z1] (vI z1 :: st) X Q := w_iload_n (by rfl) rfl
theorem s131_1 {l0 l1 : Value} {z1 : Int} (h1 : -2147483648 ≤ z1 ∧ z1 ≤ 2147483647) : WP d 131 1 [l0, l1] (vI z1 :: st) X Q = if z1 = 98 then WP d 131 60 [l0, l1] (st) X Q else if z1 = 100 then WP d 131 70 [l0, l1] (st) X Q else if z1 = 102 then WP d 131 62 [l0, l1] (st) X Q else if z1 = 104 then WP d 131 68 [l0, l1] (st) X Q else if z1 = 107 then WP d 131 64 [l0, l1] (st) X Q else if z1 = 118 then WP d 131 66 [l0, l1] (st) X Q else WP d 131 72 [l0, l1] (st) X Q := by
  by_cases e0 : z1 = 98
  · subst e0; rw [if_pos rfl]; exact w_lsw (by rfl) (by decide) (by decide) (by rfl) (by decide)
  rw [if_neg e0]
  by_cases e1 : z1 = 100
  · subst e1; rw [if_pos rfl]; exact w_lsw (by rfl) (by decide) (by decide) (by rfl) (by decide)
  rw [if_neg e1]
  by_cases e2 : z1 = 102
  · subst e2; rw [if_pos rfl]; exact w_lsw (by rfl) (by decide) (by decide) (by rfl) (by decide)
  rw [if_neg e2]
  by_cases e3 : z1 = 104
  · subst e3; rw [if_pos rfl]; exact w_lsw (by rfl) (by decide) (by decide) (by rfl) (by decide)
  rw [if_neg e3]
  by_cases e4 : z1 = 107
  · subst e4; rw [if_pos rfl]; exact w_lsw (by rfl) (by decide) (by decide) (by rfl) (by decide)
  rw [if_neg e4]
  by_cases e5 : z1 = 118
  · subst e5; rw [if_pos rfl]; exact w_lsw (by rfl) (by decide) (by decide) (by rfl) (by decide)
  rw [if_neg e5]
  exact w_lsw (o := 71) (by rfl) h1 (by decide) (by show Op.lookupswitch.offset [(98, 59), (100, 69), (102, 61), (104, 67), (107, 63), (118, 65)] (71) z1 = _; rw [Op.lookupswitch.offset_cons, if_neg (fun h => e0 h.symm), Op.lookupswitch.offset_cons, if_neg (fun h => e1 h.symm), Op.lookupswitch.offset_cons, if_neg (fun h => e2 h.symm), Op.lookupswitch.offset_cons, if_neg (fun h => e3 h.symm), Op.lookupswitch.offset_cons, if_neg (fun h => e4 h.symm), Op.lookupswitch.offset_cons, if_neg (fun h => e5 h.symm)]; rfl) (by decide)
theorem s131_60 {l0 l1 : Value}  : WP d 131 60 [l0, l1] (st) X Q = WP d 131 61 [l0, l1] (vI (0) :: st) X Q := w_iconst (by rfl)
theorem s131_61 {l0 l1 : Value} {z1 : Int} : WP d 131 61 [l0, l1] (vI z1 :: []) X Q = Q (some (vI z1)) X := w_ireti (by rfl) (by rfl)
theorem s131_62 {l0 l1 : Value}  : WP d 131 62 [l0, l1] (st) X Q = WP d 131 63 [l0, l1] (vI (1) :: st) X Q := w_iconst (by rfl)
theorem s131_63 {l0 l1 : Value} {z1 : Int} : WP d 131 63 [l0, l1] (vI z1 :: []) X Q = Q (some (vI z1)) X := w_ireti (by rfl) (by rfl)
theorem s131_64 {l0 l1 : Value}  : WP d 131 64 [l0, l1] (st) X Q = WP d 131 65 [l0, l1] (vI (2) :: st) X Q := w_iconst (by rfl)
theorem s131_65 {l0 l1 : Value} {z1 : Int} : WP d 131 65 [l0, l1] (vI z1 :: []) X Q = Q (some (vI z1)) X := w_ireti (by rfl) (by rfl)
theorem s131_66 {l0 l1 : Value}  : WP d 131 66 [l0, l1] (st) X Q = WP d 131 67 [l0, l1] (vI (3) :: st) X Q := w_iconst (by rfl)
theorem s131_67 {l0 l1 : Value} {z1 : Int} : WP d 131 67 [l0, l1] (vI z1 :: []) X Q = Q (some (vI z1)) X := w_ireti (by rfl) (by rfl)
theorem s131_68 {l0 l1 : Value}  : WP d 131 68 [l0, l1] (st) X Q = WP d 131 69 [l0, l1] (vI (4) :: st) X Q := w_iconst (by rfl)
theorem s131_69 {l0 l1 : Value} {z1 : Int} : WP d 131 69 [l0, l1] (vI z1 :: []) X Q = Q (some (vI z1)) X := w_ireti (by rfl) (by rfl)
theorem s131_70 {l0 l1 : Value}  : WP d 131 70 [l0, l1] (st) X Q = WP d 131 71 [l0, l1] (vI (5) :: st) X Q := w_iconst (by rfl)
theorem s131_71 {l0 l1 : Value} {z1 : Int} : WP d 131 71 [l0, l1] (vI z1 :: []) X Q = Q (some (vI z1)) X := w_ireti (by rfl) (by rfl)
theorem s131_72 {l0 l1 : Value}  : WP d 131 72 [l0, l1] (st) X Q = WP d 131 73 [l0, l1] (vI (-1) :: st) X Q := w_iconst (by rfl)
theorem s131_73 {l0 l1 : Value} {z1 : Int} : WP d 131 73 [l0, l1] (vI z1 :: []) X Q = Q (some (vI z1)) X := w_ireti (by rfl) (by rfl)
/-! 132 BellsThatEatModel.takesTest -/
theorem e132 {d : Nat} {X : q_H}  {r : Option Value} {X' : q_H} (hd : 1 ≤ d) (h : WP (d - 1) 132 0 [.ref 82, .null, .null] [] X (fun r1 X1 => r1 = r ∧ X1 = X')) : Sp d 132 [.ref 82] X r X' := Sp.of1 hd (vs := [.ref 82]) (ls := [.ref 82, .null, .null]) (by rfl) (by rfl) h
theorem E132 {d : Nat} {X : q_H}  {Q : Option Value → q_H → Prop} (hd : 1 ≤ d) (h : WP (d - 1) 132 0 [.ref 82, .null, .null] [] X Q) : ∃ r X', Sp d 132 [.ref 82] X r X' ∧ Q r X' := Sp.of2 hd (vs := [.ref 82]) (ls := [.ref 82, .null, .null]) (by rfl) (by rfl) h
theorem s132_0 {l1 l2 : Value}  : WP d 132 0 [.ref 82, l1, l2] (st) X Q = WP d 132 1 [.ref 82, l1, l2] (.ref 82 :: st) X Q := w_aload_n (by rfl) rfl (by decide)
theorem s132_1 {l1 l2 : Value}  : WP d 132 1 [.ref 82, l1, l2] (st) X Q = WP d 132 2 [.ref 82, l1, l2] (.ref 82 :: st) X Q := w_aload_n (by rfl) rfl (by decide)
theorem c132_2 {l0 l1 l2 : Value} {x0 : Value} {r : Int} {X' : q_H} (hN : 82 < N) (hS : Sp d 122 [.ref 82] (N, L, M) (some (vI r)) X') : WP d 132 2 [l0, l1, l2] (.ref 82 :: x0 :: []) (N, L, M) Q = WP d 132 5 [l0, l1, l2] (vI r :: x0 :: []) X' Q := w_callv (vs := []) (by rfl) (by rfl) rfl (Nat.le_of_ble_eq_true rfl) (kd := 9) (by rfl) (by decide) (Or.inl hN) (by rfl) hS
theorem c132_5 {l0 l1 l2 : Value} {z1 : Int} {r : Int} {X' : q_H} (hN : 82 < N) (hS : Sp d 131 [.ref 82, vI z1] (N, L, M) (some (vI r)) X') : WP d 132 5 [l0, l1, l2] (vI z1 :: .ref 82 :: []) (N, L, M) Q = WP d 132 8 [l0, l1, l2] (vI r :: []) X' Q := w_callv (vs := [vI z1]) (by rfl) (by rfl) rfl (Nat.le_of_ble_eq_true rfl) (kd := 9) (by rfl) (by decide) (Or.inl hN) (by rfl) hS
theorem s132_8 {l1 l2 : Value} {b1 : Nat} {z2 : Int} : WP d 132 8 [.ref b1, l1, l2] (vI z2 :: st) X Q = WP d 132 9 [.ref b1, vI z2, l2] (st) X Q := w_istore_n (by rfl) (q_okb_s rfl rfl) (Nat.le_of_ble_eq_true rfl) rfl
theorem s132_9 {l0 l2 : Value} {z1 : Int} : WP d 132 9 [l0, vI z1, l2] (st) X Q = WP d 132 10 [l0, vI z1, l2] (vI z1 :: st) X Q := w_iload_n (by rfl) rfl
theorem s132_10 {l0 l1 l2 : Value} {z1 : Int} (h1 : -2147483648 ≤ z1 ∧ z1 ≤ 2147483647) : WP d 132 10 [l0, l1, l2] (vI z1 :: st) X Q = if z1 < 0 then WP d 132 13 [l0, l1, l2] (st) X Q else WP d 132 15 [l0, l1, l2] (st) X Q := w_ifge (by rfl) (by decide) h1
theorem s132_13 {l0 l1 l2 : Value}  : WP d 132 13 [l0, l1, l2] (st) X Q = WP d 132 14 [l0, l1, l2] (vI (0) :: st) X Q := w_iconst (by rfl)
theorem s132_14 {l0 l1 l2 : Value} {z1 : Int} (hz : z1 = 0 ∨ z1 = 1) : WP d 132 14 [l0, l1, l2] (vI z1 :: []) X Q = Q (some (vI z1)) X := w_iretz (by rfl) (by rfl) (nb_bool hz)
theorem s132_14b {l0 l1 l2 : Value} {P : Prop} [Decidable P] : WP d 132 14 [l0, l1, l2] (vI (bI P) :: []) X Q = Q (some (vI (bI P))) X := w_iretz (by rfl) (by rfl) (nb_bool (bI_01 P))
theorem s132_15 {l1 l2 : Value}  : WP d 132 15 [.ref 82, l1, l2] (st) X Q = WP d 132 16 [.ref 82, l1, l2] (.ref 82 :: st) X Q := w_aload_n (by rfl) rfl (by decide)
theorem s132_16 {l0 l1 l2 : Value} {a1 : Nat} : WP d 132 16 [l0, l1, l2] (.ref a1 :: st) X Q = WP d 132 17 [l0, l1, l2] (.ref a1 :: .ref a1 :: st) X Q := w_dup (by rfl) rfl
theorem s132_17 {l0 l1 l2 : Value} (hN : 82 < N) : WP d 132 17 [l0, l1, l2] (.ref 82 :: st) (N, L, M) Q = WP d 132 20 [l0, l1, l2] (M 82 11 :: st) (N, L, M) Q := w_getf (by rfl) (by rfl) hN (by decide) (by rfl)
theorem s132_20 {l0 l1 l2 : Value}  : WP d 132 20 [l0, l1, l2] (st) X Q = WP d 132 21 [l0, l1, l2] (vI (1) :: st) X Q := w_iconst (by rfl)
theorem s132_21 {l0 l1 l2 : Value} {z1 : Int} {z2 : Int} : WP d 132 21 [l0, l1, l2] (vI z2 :: vI z1 :: st) X Q = WP d 132 22 [l0, l1, l2] (vI (z1 + z2) :: st) X Q := w_iadd (by rfl)
theorem s132_22 {l0 l1 l2 : Value} {z1 : Int} (hN : 82 < N) : WP d 132 22 [l0, l1, l2] (vI z1 :: .ref 82 :: st) (N, L, M) Q = WP d 132 25 [l0, l1, l2] (st) (N, L, up M 82 11 (vI z1)) Q := w_putf (ci := 9) (by rfl) (by rfl) (by decide) hN (by rfl) (q_fit_int rfl _)
theorem s132_25 {l1 l2 : Value}  : WP d 132 25 [.ref 82, l1, l2] (st) X Q = WP d 132 26 [.ref 82, l1, l2] (.ref 82 :: st) X Q := w_aload_n (by rfl) rfl (by decide)
theorem c132_26 {l0 l1 l2 : Value} {r : Int} {X' : q_H} (hN : 82 < N) (hS : Sp d 122 [.ref 82] (N, L, M) (some (vI r)) X') : WP d 132 26 [l0, l1, l2] (.ref 82 :: []) (N, L, M) Q = WP d 132 29 [l0, l1, l2] (vI r :: []) X' Q := w_callv (vs := []) (by rfl) (by rfl) rfl (Nat.le_of_ble_eq_true rfl) (kd := 9) (by rfl) (by decide) (Or.inl hN) (by rfl) hS
theorem s132_29 {l0 l2 : Value} {z1 : Int} {z2 : Int} : WP d 132 29 [l0, vI z1, l2] (vI z2 :: st) X Q = WP d 132 30 [l0, vI z1, vI z2] (st) X Q := w_istore_n (by rfl) (q_okb_s rfl rfl) (Nat.le_of_ble_eq_true rfl) rfl
theorem s132_30 {l1 l2 : Value}  : WP d 132 30 [.ref 82, l1, l2] (st) X Q = WP d 132 31 [.ref 82, l1, l2] (.ref 82 :: st) X Q := w_aload_n (by rfl) rfl (by decide)
theorem s132_31 {l0 l1 : Value} {z1 : Int} : WP d 132 31 [l0, l1, vI z1] (st) X Q = WP d 132 32 [l0, l1, vI z1] (vI z1 :: st) X Q := w_iload_n (by rfl) rfl
theorem s132_32 {l0 l1 l2 : Value}  : WP d 132 32 [l0, l1, l2] (st) X Q = WP d 132 34 [l0, l1, l2] (vI (60) :: st) X Q := w_bipush (by rfl) (by decide)
theorem s132_34 {l0 l1 l2 : Value}  : WP d 132 34 [l0, l1, l2] (st) X Q = WP d 132 36 [l0, l1, l2] (vI (62) :: st) X Q := w_bipush (by rfl) (by decide)
theorem c132_36 {l0 l1 l2 : Value} {z1 : Int} {z2 : Int} {z3 : Int} {r : Int} {X' : q_H} (hN : 82 < N) (hS : Sp d 109 [.ref 82, vI z1, vI z2, vI z3] (N, L, M) (some (vI r)) X') : WP d 132 36 [l0, l1, l2] (vI z3 :: vI z2 :: vI z1 :: .ref 82 :: []) (N, L, M) Q = WP d 132 39 [l0, l1, l2] (vI r :: []) X' Q := w_callv (vs := [vI z1, vI z2, vI z3]) (by rfl) (by rfl) rfl (Nat.le_of_ble_eq_true rfl) (kd := 9) (by rfl) (by decide) (Or.inl hN) (by rfl) hS
theorem s132_39 {l0 l1 l2 : Value} {z1 : Int} (h1 : -2147483648 ≤ z1 ∧ z1 ≤ 2147483647) : WP d 132 39 [l0, l1, l2] (vI z1 :: st) X Q = if z1 = 0 then WP d 132 42 [l0, l1, l2] (st) X Q else WP d 132 44 [l0, l1, l2] (st) X Q := w_ifne (by rfl) (by decide) h1
theorem s132_39b {l0 l1 l2 : Value} {P : Prop} [Decidable P] : WP d 132 39 [l0, l1, l2] (vI (bI P) :: st) X Q = if P then WP d 132 44 [l0, l1, l2] (st) X Q else WP d 132 42 [l0, l1, l2] (st) X Q := w_ifneb (by rfl) (by decide)
theorem s132_42 {l0 l1 l2 : Value}  : WP d 132 42 [l0, l1, l2] (st) X Q = WP d 132 43 [l0, l1, l2] (vI (0) :: st) X Q := w_iconst (by rfl)
theorem s132_43 {l0 l1 l2 : Value} {z1 : Int} (hz : z1 = 0 ∨ z1 = 1) : WP d 132 43 [l0, l1, l2] (vI z1 :: []) X Q = Q (some (vI z1)) X := w_iretz (by rfl) (by rfl) (nb_bool hz)
theorem s132_43b {l0 l1 l2 : Value} {P : Prop} [Decidable P] : WP d 132 43 [l0, l1, l2] (vI (bI P) :: []) X Q = Q (some (vI (bI P))) X := w_iretz (by rfl) (by rfl) (nb_bool (bI_01 P))
theorem s132_44 {l1 l2 : Value}  : WP d 132 44 [.ref 82, l1, l2] (st) X Q = WP d 132 45 [.ref 82, l1, l2] (.ref 82 :: st) X Q := w_aload_n (by rfl) rfl (by decide)
theorem s132_45 {l0 l1 l2 : Value} {a1 : Nat} : WP d 132 45 [l0, l1, l2] (.ref a1 :: st) X Q = WP d 132 46 [l0, l1, l2] (.ref a1 :: .ref a1 :: st) X Q := w_dup (by rfl) rfl
theorem s132_46 {l0 l1 l2 : Value} (hN : 82 < N) : WP d 132 46 [l0, l1, l2] (.ref 82 :: st) (N, L, M) Q = WP d 132 49 [l0, l1, l2] (M 82 11 :: st) (N, L, M) Q := w_getf (by rfl) (by rfl) hN (by decide) (by rfl)
theorem s132_49 {l0 l1 l2 : Value}  : WP d 132 49 [l0, l1, l2] (st) X Q = WP d 132 50 [l0, l1, l2] (vI (1) :: st) X Q := w_iconst (by rfl)
theorem s132_50 {l0 l1 l2 : Value} {z1 : Int} {z2 : Int} : WP d 132 50 [l0, l1, l2] (vI z2 :: vI z1 :: st) X Q = WP d 132 51 [l0, l1, l2] (vI (z1 + z2) :: st) X Q := w_iadd (by rfl)
theorem s132_51 {l0 l1 l2 : Value} {z1 : Int} (hN : 82 < N) : WP d 132 51 [l0, l1, l2] (vI z1 :: .ref 82 :: st) (N, L, M) Q = WP d 132 54 [l0, l1, l2] (st) (N, L, up M 82 11 (vI z1)) Q := w_putf (ci := 9) (by rfl) (by rfl) (by decide) hN (by rfl) (q_fit_int rfl _)
theorem s132_54 {l1 l2 : Value}  : WP d 132 54 [.ref 82, l1, l2] (st) X Q = WP d 132 55 [.ref 82, l1, l2] (.ref 82 :: st) X Q := w_aload_n (by rfl) rfl (by decide)
theorem c132_55 {l0 l1 l2 : Value} {r : Int} {X' : q_H} (hN : 82 < N) (hS : Sp d 127 [.ref 82] (N, L, M) (some (vI r)) X') : WP d 132 55 [l0, l1, l2] (.ref 82 :: []) (N, L, M) Q = WP d 132 58 [l0, l1, l2] (vI r :: []) X' Q := w_callv (vs := []) (by rfl) (by rfl) rfl (Nat.le_of_ble_eq_true rfl) (kd := 9) (by rfl) (by decide) (Or.inl hN) (by rfl) hS
theorem s132_58 {l0 l1 l2 : Value} {z1 : Int} (h1 : -2147483648 ≤ z1 ∧ z1 ≤ 2147483647) : WP d 132 58 [l0, l1, l2] (vI z1 :: st) X Q = if z1 = 0 then WP d 132 61 [l0, l1, l2] (st) X Q else WP d 132 63 [l0, l1, l2] (st) X Q := w_ifne (by rfl) (by decide) h1
theorem s132_58b {l0 l1 l2 : Value} {P : Prop} [Decidable P] : WP d 132 58 [l0, l1, l2] (vI (bI P) :: st) X Q = if P then WP d 132 63 [l0, l1, l2] (st) X Q else WP d 132 61 [l0, l1, l2] (st) X Q := w_ifneb (by rfl) (by decide)
theorem s132_61 {l0 l1 l2 : Value}  : WP d 132 61 [l0, l1, l2] (st) X Q = WP d 132 62 [l0, l1, l2] (vI (0) :: st) X Q := w_iconst (by rfl)
theorem s132_62 {l0 l1 l2 : Value} {z1 : Int} (hz : z1 = 0 ∨ z1 = 1) : WP d 132 62 [l0, l1, l2] (vI z1 :: []) X Q = Q (some (vI z1)) X := w_iretz (by rfl) (by rfl) (nb_bool hz)
theorem s132_62b {l0 l1 l2 : Value} {P : Prop} [Decidable P] : WP d 132 62 [l0, l1, l2] (vI (bI P) :: []) X Q = Q (some (vI (bI P))) X := w_iretz (by rfl) (by rfl) (nb_bool (bI_01 P))
theorem s132_63 {l1 l2 : Value}  : WP d 132 63 [.ref 82, l1, l2] (st) X Q = WP d 132 64 [.ref 82, l1, l2] (.ref 82 :: st) X Q := w_aload_n (by rfl) rfl (by decide)
theorem s132_64 {l0 l1 l2 : Value}  : WP d 132 64 [l0, l1, l2] (st) X Q = WP d 132 67 [l0, l1, l2] (vI (1000) :: st) X Q := w_sipush (by rfl) (by decide)
theorem s132_67 {l0 l2 : Value} {z1 : Int} : WP d 132 67 [l0, vI z1, l2] (st) X Q = WP d 132 68 [l0, vI z1, l2] (vI z1 :: st) X Q := w_iload_n (by rfl) rfl
theorem s132_68 {l0 l1 l2 : Value} {z1 : Int} {z2 : Int} : WP d 132 68 [l0, l1, l2] (vI z2 :: vI z1 :: st) X Q = WP d 132 69 [l0, l1, l2] (vI (z1 * z2) :: st) X Q := w_imul (by rfl)
theorem s132_69 {l0 l1 l2 : Value}  : WP d 132 69 [l0, l1, l2] (st) X Q = WP d 132 71 [l0, l1, l2] (vI (100) :: st) X Q := w_bipush (by rfl) (by decide)
theorem s132_71 {l0 l1 : Value} {z1 : Int} : WP d 132 71 [l0, l1, vI z1] (st) X Q = WP d 132 72 [l0, l1, vI z1] (vI z1 :: st) X Q := w_iload_n (by rfl) rfl
theorem s132_72 {l0 l1 l2 : Value}  : WP d 132 72 [l0, l1, l2] (st) X Q = WP d 132 74 [l0, l1, l2] (vI (60) :: st) X Q := w_bipush (by rfl) (by decide)
theorem s132_74 {l0 l1 l2 : Value} {z1 : Int} {z2 : Int} : WP d 132 74 [l0, l1, l2] (vI z2 :: vI z1 :: st) X Q = WP d 132 75 [l0, l1, l2] (vI (z1 - z2) :: st) X Q := w_isub (by rfl)
theorem s132_75 {l0 l1 l2 : Value} {z1 : Int} {z2 : Int} : WP d 132 75 [l0, l1, l2] (vI z2 :: vI z1 :: st) X Q = WP d 132 76 [l0, l1, l2] (vI (z1 * z2) :: st) X Q := w_imul (by rfl)
theorem s132_76 {l0 l1 l2 : Value} {z1 : Int} {z2 : Int} : WP d 132 76 [l0, l1, l2] (vI z2 :: vI z1 :: st) X Q = WP d 132 77 [l0, l1, l2] (vI (z1 + z2) :: st) X Q := w_iadd (by rfl)
theorem s132_77 {l1 l2 : Value}  : WP d 132 77 [.ref 82, l1, l2] (st) X Q = WP d 132 78 [.ref 82, l1, l2] (.ref 82 :: st) X Q := w_aload_n (by rfl) rfl (by decide)
theorem s132_78 {l0 l1 l2 : Value} (hN : 82 < N) : WP d 132 78 [l0, l1, l2] (.ref 82 :: st) (N, L, M) Q = WP d 132 81 [l0, l1, l2] (M 82 12 :: st) (N, L, M) Q := w_getf (by rfl) (by rfl) hN (by decide) (by rfl)
theorem s132_81 {l0 l1 l2 : Value} {z1 : Int} {z2 : Int} : WP d 132 81 [l0, l1, l2] (vI z2 :: vI z1 :: st) X Q = WP d 132 82 [l0, l1, l2] (vI (z1 + z2) :: st) X Q := w_iadd (by rfl)
theorem c132_82 {l0 l1 l2 : Value} {z1 : Int} {X' : q_H} (hN : 82 < N) (hS : Sp d 128 [.ref 82, vI z1] (N, L, M) none X') : WP d 132 82 [l0, l1, l2] (vI z1 :: .ref 82 :: []) (N, L, M) Q = WP d 132 85 [l0, l1, l2] ([]) X' Q := w_callv (vs := [vI z1]) (by rfl) (by rfl) rfl (Nat.le_of_ble_eq_true rfl) (kd := 9) (by rfl) (by decide) (Or.inl hN) (by rfl) hS
theorem s132_85 {l1 l2 : Value}  : WP d 132 85 [.ref 82, l1, l2] (st) X Q = WP d 132 86 [.ref 82, l1, l2] (.ref 82 :: st) X Q := w_aload_n (by rfl) rfl (by decide)
theorem c132_86 {l0 l1 l2 : Value} {X' : q_H} (hN : 82 < N) (hS : Sp d 129 [.ref 82] (N, L, M) none X') : WP d 132 86 [l0, l1, l2] (.ref 82 :: []) (N, L, M) Q = WP d 132 89 [l0, l1, l2] ([]) X' Q := w_callv (vs := []) (by rfl) (by rfl) rfl (Nat.le_of_ble_eq_true rfl) (kd := 9) (by rfl) (by decide) (Or.inl hN) (by rfl) hS
theorem s132_89 {l0 l1 l2 : Value}  : WP d 132 89 [l0, l1, l2] (st) X Q = WP d 132 90 [l0, l1, l2] (vI (1) :: st) X Q := w_iconst (by rfl)
theorem s132_90 {l0 l1 l2 : Value} {z1 : Int} (hz : z1 = 0 ∨ z1 = 1) : WP d 132 90 [l0, l1, l2] (vI z1 :: []) X Q = Q (some (vI z1)) X := w_iretz (by rfl) (by rfl) (nb_bool hz)
theorem s132_90b {l0 l1 l2 : Value} {P : Prop} [Decidable P] : WP d 132 90 [l0, l1, l2] (vI (bI P) :: []) X Q = Q (some (vI (bI P))) X := w_iretz (by rfl) (by rfl) (nb_bool (bI_01 P))
/-! 133 BellsThatEatModel.takesE -/
theorem e133 {d : Nat} {X : q_H} {z1 : Int} {r : Option Value} {X' : q_H} (hd : 1 ≤ d) (h : WP (d - 1) 133 0 [.ref 82, vI z1, .null, .null] [] X (fun r1 X1 => r1 = r ∧ X1 = X')) : Sp d 133 [.ref 82, vI z1] X r X' := Sp.of1 hd (vs := [.ref 82, vI z1]) (ls := [.ref 82, vI z1, .null, .null]) (by rfl) (by rfl) h
theorem E133 {d : Nat} {X : q_H} {z1 : Int} {Q : Option Value → q_H → Prop} (hd : 1 ≤ d) (h : WP (d - 1) 133 0 [.ref 82, vI z1, .null, .null] [] X Q) : ∃ r X', Sp d 133 [.ref 82, vI z1] X r X' ∧ Q r X' := Sp.of2 hd (vs := [.ref 82, vI z1]) (ls := [.ref 82, vI z1, .null, .null]) (by rfl) (by rfl) h
theorem s133_0 {l1 l2 l3 : Value}  : WP d 133 0 [.ref 82, l1, l2, l3] (st) X Q = WP d 133 1 [.ref 82, l1, l2, l3] (.ref 82 :: st) X Q := w_aload_n (by rfl) rfl (by decide)
theorem s133_1 {l0 l1 l2 l3 : Value}  : WP d 133 1 [l0, l1, l2, l3] (st) X Q = WP d 133 2 [l0, l1, l2, l3] (vI (0) :: st) X Q := w_iconst (by rfl)
theorem s133_2 {l0 l1 l2 l3 : Value} {z1 : Int} (hN : 82 < N) : WP d 133 2 [l0, l1, l2, l3] (vI z1 :: .ref 82 :: st) (N, L, M) Q = WP d 133 5 [l0, l1, l2, l3] (st) (N, L, up M 82 22 (vI z1)) Q := w_putf (ci := 9) (by rfl) (by rfl) (by decide) hN (by rfl) (q_fit_int rfl _)
theorem s133_5 {l1 l2 l3 : Value}  : WP d 133 5 [.ref 82, l1, l2, l3] (st) X Q = WP d 133 6 [.ref 82, l1, l2, l3] (.ref 82 :: st) X Q := w_aload_n (by rfl) rfl (by decide)
theorem s133_6 {l0 l1 l2 l3 : Value}  : WP d 133 6 [l0, l1, l2, l3] (st) X Q = WP d 133 7 [l0, l1, l2, l3] (vI (0) :: st) X Q := w_iconst (by rfl)
theorem s133_7 {l0 l1 l2 l3 : Value} {z1 : Int} (hN : 82 < N) : WP d 133 7 [l0, l1, l2, l3] (vI z1 :: .ref 82 :: st) (N, L, M) Q = WP d 133 10 [l0, l1, l2, l3] (st) (N, L, up M 82 23 (vI z1)) Q := w_putf (ci := 9) (by rfl) (by rfl) (by decide) hN (by rfl) (q_fit_int rfl _)
theorem s133_10 {l1 l2 l3 : Value}  : WP d 133 10 [.ref 82, l1, l2, l3] (st) X Q = WP d 133 11 [.ref 82, l1, l2, l3] (.ref 82 :: st) X Q := w_aload_n (by rfl) rfl (by decide)
theorem s133_11 {l0 l1 l2 l3 : Value} (hN : 82 < N) : WP d 133 11 [l0, l1, l2, l3] (.ref 82 :: st) (N, L, M) Q = WP d 133 14 [l0, l1, l2, l3] (M 82 17 :: st) (N, L, M) Q := w_getf (by rfl) (by rfl) hN (by decide) (by rfl)
theorem s133_14 {l0 l2 l3 : Value} {z1 : Int} : WP d 133 14 [l0, vI z1, l2, l3] (st) X Q = WP d 133 15 [l0, vI z1, l2, l3] (vI z1 :: st) X Q := w_iload_n (by rfl) rfl
theorem s133_15 {l1 l2 l3 : Value}  : WP d 133 15 [.ref 82, l1, l2, l3] (st) X Q = WP d 133 16 [.ref 82, l1, l2, l3] (.ref 82 :: st) X Q := w_aload_n (by rfl) rfl (by decide)
theorem s133_16 {l0 l1 l2 l3 : Value} (hN : 82 < N) : WP d 133 16 [l0, l1, l2, l3] (.ref 82 :: st) (N, L, M) Q = WP d 133 19 [l0, l1, l2, l3] (M 82 21 :: st) (N, L, M) Q := w_getf (by rfl) (by rfl) hN (by decide) (by rfl)
theorem s133_19 {l0 l1 l2 l3 : Value} {j1 : Int} {z2 : Int} (hj : 0 ≤ j1 ∧ j1 < 60) (hN : 92 < N) : WP d 133 19 [l0, l1, l2, l3] (vI z2 :: vI j1 :: .ref 92 :: st) (N, L, M) Q = WP d 133 20 [l0, l1, l2, l3] (st) (N, L, up M 92 j1.toNat (vI z2)) Q := w_iast (by rfl) (m := 60) (by rfl) hN hj (by decide)
theorem s133_20 {l0 l1 l2 l3 : Value}  : WP d 133 20 [l0, l1, l2, l3] (st) X Q = WP d 133 21 [l0, l1, l2, l3] (vI (1) :: st) X Q := w_iconst (by rfl)
theorem s133_21 {l0 l2 l3 : Value} {z1 : Int} {z2 : Int} : WP d 133 21 [l0, vI z1, l2, l3] (vI z2 :: st) X Q = WP d 133 22 [l0, vI z1, vI z2, l3] (st) X Q := w_istore_n (by rfl) (q_okb_s rfl rfl) (Nat.le_of_ble_eq_true rfl) rfl
theorem s133_22 {l1 l2 l3 : Value}  : WP d 133 22 [.ref 82, l1, l2, l3] (st) X Q = WP d 133 23 [.ref 82, l1, l2, l3] (.ref 82 :: st) X Q := w_aload_n (by rfl) rfl (by decide)
theorem c133_23 {l0 l1 l2 l3 : Value} {r : Int} {X' : q_H} (hN : 82 < N) (hS : Sp d 122 [.ref 82] (N, L, M) (some (vI r)) X') : WP d 133 23 [l0, l1, l2, l3] (.ref 82 :: []) (N, L, M) Q = WP d 133 26 [l0, l1, l2, l3] (vI r :: []) X' Q := w_callv (vs := []) (by rfl) (by rfl) rfl (Nat.le_of_ble_eq_true rfl) (kd := 9) (by rfl) (by decide) (Or.inl hN) (by rfl) hS
theorem s133_26 {l0 l1 l3 : Value} {z1 : Int} {z2 : Int} : WP d 133 26 [l0, l1, vI z1, l3] (vI z2 :: st) X Q = WP d 133 27 [l0, l1, vI z1, vI z2] (st) X Q := w_istore_n (by rfl) (q_okb_s rfl rfl) (Nat.le_of_ble_eq_true rfl) rfl
theorem s133_27 {l0 l1 l3 : Value} {z1 : Int} : WP d 133 27 [l0, l1, vI z1, l3] (st) X Q = WP d 133 28 [l0, l1, vI z1, l3] (vI z1 :: st) X Q := w_iload_n (by rfl) rfl
theorem s133_28 {l0 l1 l2 l3 : Value} {z1 : Int} (h1 : -2147483648 ≤ z1 ∧ z1 ≤ 2147483647) : WP d 133 28 [l0, l1, l2, l3] (vI z1 :: st) X Q = if z1 = 0 then WP d 133 110 [l0, l1, l2, l3] (st) X Q else WP d 133 31 [l0, l1, l2, l3] (st) X Q := w_ifeq (by rfl) (by decide) h1
theorem s133_28b {l0 l1 l2 l3 : Value} {P : Prop} [Decidable P] : WP d 133 28 [l0, l1, l2, l3] (vI (bI P) :: st) X Q = if P then WP d 133 31 [l0, l1, l2, l3] (st) X Q else WP d 133 110 [l0, l1, l2, l3] (st) X Q := w_ifeqb (by rfl) (by decide)
theorem s133_31 {l0 l1 l2 : Value} {z1 : Int} : WP d 133 31 [l0, l1, l2, vI z1] (st) X Q = WP d 133 32 [l0, l1, l2, vI z1] (vI z1 :: st) X Q := w_iload_n (by rfl) rfl
theorem s133_32 {l0 l1 l2 l3 : Value}  : WP d 133 32 [l0, l1, l2, l3] (st) X Q = WP d 133 34 [l0, l1, l2, l3] (vI (33) :: st) X Q := w_bipush (by rfl) (by decide)
theorem s133_34 {l0 l1 l2 l3 : Value} {z1 : Int} {z2 : Int} (h1 : -2147483648 ≤ z1 ∧ z1 ≤ 2147483647) (h2 : -2147483648 ≤ z2 ∧ z2 ≤ 2147483647) : WP d 133 34 [l0, l1, l2, l3] (vI z2 :: vI z1 :: st) X Q = if z1 = z2 then WP d 133 43 [l0, l1, l2, l3] (st) X Q else WP d 133 37 [l0, l1, l2, l3] (st) X Q := w_icmpeq (by rfl) (by decide) h1 h2
theorem s133_34b {l0 l1 l2 l3 : Value} {P R : Prop} [Decidable P] [Decidable R] : WP d 133 34 [l0, l1, l2, l3] (vI (bI R) :: vI (bI P) :: st) X Q = if (P ↔ R) then WP d 133 43 [l0, l1, l2, l3] (st) X Q else WP d 133 37 [l0, l1, l2, l3] (st) X Q := w_icmpeqb (by rfl) (by decide)
theorem s133_37 {l0 l1 l2 : Value} {z1 : Int} : WP d 133 37 [l0, l1, l2, vI z1] (st) X Q = WP d 133 38 [l0, l1, l2, vI z1] (vI z1 :: st) X Q := w_iload_n (by rfl) rfl
theorem s133_38 {l0 l1 l2 l3 : Value}  : WP d 133 38 [l0, l1, l2, l3] (st) X Q = WP d 133 40 [l0, l1, l2, l3] (vI (40) :: st) X Q := w_bipush (by rfl) (by decide)
theorem s133_40 {l0 l1 l2 l3 : Value} {z1 : Int} {z2 : Int} (h1 : -2147483648 ≤ z1 ∧ z1 ≤ 2147483647) (h2 : -2147483648 ≤ z2 ∧ z2 ≤ 2147483647) : WP d 133 40 [l0, l1, l2, l3] (vI z2 :: vI z1 :: st) X Q = if z1 = z2 then WP d 133 43 [l0, l1, l2, l3] (st) X Q else WP d 133 96 [l0, l1, l2, l3] (st) X Q := w_icmpne (by rfl) (by decide) h1 h2
theorem s133_40b {l0 l1 l2 l3 : Value} {P R : Prop} [Decidable P] [Decidable R] : WP d 133 40 [l0, l1, l2, l3] (vI (bI R) :: vI (bI P) :: st) X Q = if (P ↔ R) then WP d 133 43 [l0, l1, l2, l3] (st) X Q else WP d 133 96 [l0, l1, l2, l3] (st) X Q := w_icmpneb (by rfl) (by decide)
theorem s133_43 {l1 l2 l3 : Value}  : WP d 133 43 [.ref 82, l1, l2, l3] (st) X Q = WP d 133 44 [.ref 82, l1, l2, l3] (.ref 82 :: st) X Q := w_aload_n (by rfl) rfl (by decide)
theorem s133_44 {l0 l1 l2 l3 : Value} (hN : 82 < N) : WP d 133 44 [l0, l1, l2, l3] (.ref 82 :: st) (N, L, M) Q = WP d 133 47 [l0, l1, l2, l3] (M 82 23 :: st) (N, L, M) Q := w_getf (by rfl) (by rfl) hN (by decide) (by rfl)
theorem s133_47 {l0 l1 l2 l3 : Value}  : WP d 133 47 [l0, l1, l2, l3] (st) X Q = WP d 133 48 [l0, l1, l2, l3] (vI (4) :: st) X Q := w_iconst (by rfl)
theorem s133_48 {l0 l1 l2 l3 : Value} {z1 : Int} {z2 : Int} (h1 : -2147483648 ≤ z1 ∧ z1 ≤ 2147483647) (h2 : -2147483648 ≤ z2 ∧ z2 ≤ 2147483647) : WP d 133 48 [l0, l1, l2, l3] (vI z2 :: vI z1 :: st) X Q = if z1 = z2 then WP d 133 51 [l0, l1, l2, l3] (st) X Q else WP d 133 53 [l0, l1, l2, l3] (st) X Q := w_icmpne (by rfl) (by decide) h1 h2
theorem s133_48b {l0 l1 l2 l3 : Value} {P R : Prop} [Decidable P] [Decidable R] : WP d 133 48 [l0, l1, l2, l3] (vI (bI R) :: vI (bI P) :: st) X Q = if (P ↔ R) then WP d 133 51 [l0, l1, l2, l3] (st) X Q else WP d 133 53 [l0, l1, l2, l3] (st) X Q := w_icmpneb (by rfl) (by decide)
theorem s133_51 {l0 l1 l2 l3 : Value}  : WP d 133 51 [l0, l1, l2, l3] (st) X Q = WP d 133 52 [l0, l1, l2, l3] (vI (0) :: st) X Q := w_iconst (by rfl)
theorem s133_52 {l0 l1 l2 l3 : Value} {z1 : Int} (hz : z1 = 0 ∨ z1 = 1) : WP d 133 52 [l0, l1, l2, l3] (vI z1 :: []) X Q = Q (some (vI z1)) X := w_iretz (by rfl) (by rfl) (nb_bool hz)
theorem s133_52b {l0 l1 l2 l3 : Value} {P : Prop} [Decidable P] : WP d 133 52 [l0, l1, l2, l3] (vI (bI P) :: []) X Q = Q (some (vI (bI P))) X := w_iretz (by rfl) (by rfl) (nb_bool (bI_01 P))
theorem s133_53 {l1 l2 l3 : Value}  : WP d 133 53 [.ref 82, l1, l2, l3] (st) X Q = WP d 133 54 [.ref 82, l1, l2, l3] (.ref 82 :: st) X Q := w_aload_n (by rfl) rfl (by decide)
theorem s133_54 {l0 l1 l2 l3 : Value} {a1 : Nat} : WP d 133 54 [l0, l1, l2, l3] (.ref a1 :: st) X Q = WP d 133 55 [l0, l1, l2, l3] (.ref a1 :: .ref a1 :: st) X Q := w_dup (by rfl) rfl
theorem s133_55 {l0 l1 l2 l3 : Value} (hN : 82 < N) : WP d 133 55 [l0, l1, l2, l3] (.ref 82 :: st) (N, L, M) Q = WP d 133 58 [l0, l1, l2, l3] (M 82 23 :: st) (N, L, M) Q := w_getf (by rfl) (by rfl) hN (by decide) (by rfl)
theorem s133_58 {l0 l1 l2 l3 : Value}  : WP d 133 58 [l0, l1, l2, l3] (st) X Q = WP d 133 59 [l0, l1, l2, l3] (vI (1) :: st) X Q := w_iconst (by rfl)
theorem s133_59 {l0 l1 l2 l3 : Value} {z1 : Int} {z2 : Int} : WP d 133 59 [l0, l1, l2, l3] (vI z2 :: vI z1 :: st) X Q = WP d 133 60 [l0, l1, l2, l3] (vI (z1 + z2) :: st) X Q := w_iadd (by rfl)
theorem s133_60 {l0 l1 l2 l3 : Value} {z1 : Int} (hN : 82 < N) : WP d 133 60 [l0, l1, l2, l3] (vI z1 :: .ref 82 :: st) (N, L, M) Q = WP d 133 63 [l0, l1, l2, l3] (st) (N, L, up M 82 23 (vI z1)) Q := w_putf (ci := 9) (by rfl) (by rfl) (by decide) hN (by rfl) (q_fit_int rfl _)
theorem s133_63 {l1 l2 l3 : Value}  : WP d 133 63 [.ref 82, l1, l2, l3] (st) X Q = WP d 133 64 [.ref 82, l1, l2, l3] (.ref 82 :: st) X Q := w_aload_n (by rfl) rfl (by decide)
theorem s133_64 {l0 l1 l2 l3 : Value} (hN : 82 < N) : WP d 133 64 [l0, l1, l2, l3] (.ref 82 :: st) (N, L, M) Q = WP d 133 67 [l0, l1, l2, l3] (M 82 20 :: st) (N, L, M) Q := w_getf (by rfl) (by rfl) hN (by decide) (by rfl)
theorem s133_67 {l1 l2 l3 : Value}  : WP d 133 67 [.ref 82, l1, l2, l3] (st) X Q = WP d 133 68 [.ref 82, l1, l2, l3] (.ref 82 :: st) X Q := w_aload_n (by rfl) rfl (by decide)
theorem s133_68 {l0 l1 l2 l3 : Value} (hN : 82 < N) : WP d 133 68 [l0, l1, l2, l3] (.ref 82 :: st) (N, L, M) Q = WP d 133 71 [l0, l1, l2, l3] (M 82 22 :: st) (N, L, M) Q := w_getf (by rfl) (by rfl) hN (by decide) (by rfl)
theorem s133_71 {l0 l1 l2 : Value} {z1 : Int} : WP d 133 71 [l0, l1, l2, vI z1] (st) X Q = WP d 133 72 [l0, l1, l2, vI z1] (vI z1 :: st) X Q := w_iload_n (by rfl) rfl
theorem s133_72 {l0 l1 l2 l3 : Value} {j1 : Int} {z2 : Int} (hj : 0 ≤ j1 ∧ j1 < 101) (hN : 95 < N) : WP d 133 72 [l0, l1, l2, l3] (vI z2 :: vI j1 :: .ref 95 :: st) (N, L, M) Q = WP d 133 73 [l0, l1, l2, l3] (st) (N, L, up M 95 j1.toNat (vI z2)) Q := w_iast (by rfl) (m := 101) (by rfl) hN hj (by decide)
theorem s133_73 {l1 l2 l3 : Value}  : WP d 133 73 [.ref 82, l1, l2, l3] (st) X Q = WP d 133 74 [.ref 82, l1, l2, l3] (.ref 82 :: st) X Q := w_aload_n (by rfl) rfl (by decide)
theorem s133_74 {l0 l1 l2 l3 : Value} {a1 : Nat} : WP d 133 74 [l0, l1, l2, l3] (.ref a1 :: st) X Q = WP d 133 75 [l0, l1, l2, l3] (.ref a1 :: .ref a1 :: st) X Q := w_dup (by rfl) rfl
theorem s133_75 {l0 l1 l2 l3 : Value} (hN : 82 < N) : WP d 133 75 [l0, l1, l2, l3] (.ref 82 :: st) (N, L, M) Q = WP d 133 78 [l0, l1, l2, l3] (M 82 22 :: st) (N, L, M) Q := w_getf (by rfl) (by rfl) hN (by decide) (by rfl)
theorem s133_78 {l0 l1 l2 l3 : Value}  : WP d 133 78 [l0, l1, l2, l3] (st) X Q = WP d 133 79 [l0, l1, l2, l3] (vI (1) :: st) X Q := w_iconst (by rfl)
theorem s133_79 {l0 l1 l2 l3 : Value} {z1 : Int} {z2 : Int} : WP d 133 79 [l0, l1, l2, l3] (vI z2 :: vI z1 :: st) X Q = WP d 133 80 [l0, l1, l2, l3] (vI (z1 + z2) :: st) X Q := w_iadd (by rfl)
theorem s133_80 {l0 l1 l2 l3 : Value} {z1 : Int} (hN : 82 < N) : WP d 133 80 [l0, l1, l2, l3] (vI z1 :: .ref 82 :: st) (N, L, M) Q = WP d 133 83 [l0, l1, l2, l3] (st) (N, L, up M 82 22 (vI z1)) Q := w_putf (ci := 9) (by rfl) (by rfl) (by decide) hN (by rfl) (q_fit_int rfl _)
theorem s133_83 {l1 l2 l3 : Value}  : WP d 133 83 [.ref 82, l1, l2, l3] (st) X Q = WP d 133 84 [.ref 82, l1, l2, l3] (.ref 82 :: st) X Q := w_aload_n (by rfl) rfl (by decide)
theorem s133_84 {l0 l1 l2 l3 : Value} {a1 : Nat} : WP d 133 84 [l0, l1, l2, l3] (.ref a1 :: st) X Q = WP d 133 85 [l0, l1, l2, l3] (.ref a1 :: .ref a1 :: st) X Q := w_dup (by rfl) rfl
theorem s133_85 {l0 l1 l2 l3 : Value} (hN : 82 < N) : WP d 133 85 [l0, l1, l2, l3] (.ref 82 :: st) (N, L, M) Q = WP d 133 88 [l0, l1, l2, l3] (M 82 11 :: st) (N, L, M) Q := w_getf (by rfl) (by rfl) hN (by decide) (by rfl)
theorem s133_88 {l0 l1 l2 l3 : Value}  : WP d 133 88 [l0, l1, l2, l3] (st) X Q = WP d 133 89 [l0, l1, l2, l3] (vI (1) :: st) X Q := w_iconst (by rfl)
theorem s133_89 {l0 l1 l2 l3 : Value} {z1 : Int} {z2 : Int} : WP d 133 89 [l0, l1, l2, l3] (vI z2 :: vI z1 :: st) X Q = WP d 133 90 [l0, l1, l2, l3] (vI (z1 + z2) :: st) X Q := w_iadd (by rfl)
theorem s133_90 {l0 l1 l2 l3 : Value} {z1 : Int} (hN : 82 < N) : WP d 133 90 [l0, l1, l2, l3] (vI z1 :: .ref 82 :: st) (N, L, M) Q = WP d 133 93 [l0, l1, l2, l3] (st) (N, L, up M 82 11 (vI z1)) Q := w_putf (ci := 9) (by rfl) (by rfl) (by decide) hN (by rfl) (q_fit_int rfl _)
theorem s133_93 {l0 l1 l2 l3 : Value}  : WP d 133 93 [l0, l1, l2, l3] (st) X Q = WP d 133 22 [l0, l1, l2, l3] (st) X Q := w_goto (by rfl) (by decide)
theorem s133_96 {l1 l2 l3 : Value}  : WP d 133 96 [.ref 82, l1, l2, l3] (st) X Q = WP d 133 97 [.ref 82, l1, l2, l3] (.ref 82 :: st) X Q := w_aload_n (by rfl) rfl (by decide)
theorem c133_97 {l0 l1 l2 l3 : Value} {r : Int} {X' : q_H} (hN : 82 < N) (hS : Sp d 132 [.ref 82] (N, L, M) (some (vI r)) X') : WP d 133 97 [l0, l1, l2, l3] (.ref 82 :: []) (N, L, M) Q = WP d 133 100 [l0, l1, l2, l3] (vI r :: []) X' Q := w_callv (vs := []) (by rfl) (by rfl) rfl (Nat.le_of_ble_eq_true rfl) (kd := 9) (by rfl) (by decide) (Or.inl hN) (by rfl) hS
theorem s133_100 {l0 l1 l2 l3 : Value} {z1 : Int} (h1 : -2147483648 ≤ z1 ∧ z1 ≤ 2147483647) : WP d 133 100 [l0, l1, l2, l3] (vI z1 :: st) X Q = if z1 = 0 then WP d 133 108 [l0, l1, l2, l3] (st) X Q else WP d 133 103 [l0, l1, l2, l3] (st) X Q := w_ifeq (by rfl) (by decide) h1
theorem s133_100b {l0 l1 l2 l3 : Value} {P : Prop} [Decidable P] : WP d 133 100 [l0, l1, l2, l3] (vI (bI P) :: st) X Q = if P then WP d 133 103 [l0, l1, l2, l3] (st) X Q else WP d 133 108 [l0, l1, l2, l3] (st) X Q := w_ifeqb (by rfl) (by decide)
theorem s133_103 {l0 l1 l2 l3 : Value}  : WP d 133 103 [l0, l1, l2, l3] (st) X Q = WP d 133 104 [l0, l1, l2, l3] (vI (0) :: st) X Q := w_iconst (by rfl)
theorem s133_104 {l0 l2 l3 : Value} {z1 : Int} {z2 : Int} : WP d 133 104 [l0, vI z1, l2, l3] (vI z2 :: st) X Q = WP d 133 105 [l0, vI z1, vI z2, l3] (st) X Q := w_istore_n (by rfl) (q_okb_s rfl rfl) (Nat.le_of_ble_eq_true rfl) rfl
theorem s133_105 {l0 l1 l2 l3 : Value}  : WP d 133 105 [l0, l1, l2, l3] (st) X Q = WP d 133 22 [l0, l1, l2, l3] (st) X Q := w_goto (by rfl) (by decide)
theorem s133_108 {l0 l1 l2 l3 : Value}  : WP d 133 108 [l0, l1, l2, l3] (st) X Q = WP d 133 109 [l0, l1, l2, l3] (vI (0) :: st) X Q := w_iconst (by rfl)
theorem s133_109 {l0 l1 l2 l3 : Value} {z1 : Int} (hz : z1 = 0 ∨ z1 = 1) : WP d 133 109 [l0, l1, l2, l3] (vI z1 :: []) X Q = Q (some (vI z1)) X := w_iretz (by rfl) (by rfl) (nb_bool hz)
theorem s133_109b {l0 l1 l2 l3 : Value} {P : Prop} [Decidable P] : WP d 133 109 [l0, l1, l2, l3] (vI (bI P) :: []) X Q = Q (some (vI (bI P))) X := w_iretz (by rfl) (by rfl) (nb_bool (bI_01 P))
theorem s133_110 {l0 l1 l2 : Value} {z1 : Int} : WP d 133 110 [l0, l1, l2, vI z1] (st) X Q = WP d 133 111 [l0, l1, l2, vI z1] (vI z1 :: st) X Q := w_iload_n (by rfl) rfl
theorem s133_111 {l0 l1 l2 l3 : Value}  : WP d 133 111 [l0, l1, l2, l3] (st) X Q = WP d 133 113 [l0, l1, l2, l3] (vI (38) :: st) X Q := w_bipush (by rfl) (by decide)
theorem s133_113 {l0 l1 l2 l3 : Value} {z1 : Int} {z2 : Int} (h1 : -2147483648 ≤ z1 ∧ z1 ≤ 2147483647) (h2 : -2147483648 ≤ z2 ∧ z2 ≤ 2147483647) : WP d 133 113 [l0, l1, l2, l3] (vI z2 :: vI z1 :: st) X Q = if z1 = z2 then WP d 133 122 [l0, l1, l2, l3] (st) X Q else WP d 133 116 [l0, l1, l2, l3] (st) X Q := w_icmpeq (by rfl) (by decide) h1 h2
theorem s133_113b {l0 l1 l2 l3 : Value} {P R : Prop} [Decidable P] [Decidable R] : WP d 133 113 [l0, l1, l2, l3] (vI (bI R) :: vI (bI P) :: st) X Q = if (P ↔ R) then WP d 133 122 [l0, l1, l2, l3] (st) X Q else WP d 133 116 [l0, l1, l2, l3] (st) X Q := w_icmpeqb (by rfl) (by decide)
theorem s133_116 {l0 l1 l2 : Value} {z1 : Int} : WP d 133 116 [l0, l1, l2, vI z1] (st) X Q = WP d 133 117 [l0, l1, l2, vI z1] (vI z1 :: st) X Q := w_iload_n (by rfl) rfl
theorem s133_117 {l0 l1 l2 l3 : Value}  : WP d 133 117 [l0, l1, l2, l3] (st) X Q = WP d 133 119 [l0, l1, l2, l3] (vI (124) :: st) X Q := w_bipush (by rfl) (by decide)
theorem s133_119 {l0 l1 l2 l3 : Value} {z1 : Int} {z2 : Int} (h1 : -2147483648 ≤ z1 ∧ z1 ≤ 2147483647) (h2 : -2147483648 ≤ z2 ∧ z2 ≤ 2147483647) : WP d 133 119 [l0, l1, l2, l3] (vI z2 :: vI z1 :: st) X Q = if z1 = z2 then WP d 133 122 [l0, l1, l2, l3] (st) X Q else WP d 133 162 [l0, l1, l2, l3] (st) X Q := w_icmpne (by rfl) (by decide) h1 h2
theorem s133_119b {l0 l1 l2 l3 : Value} {P R : Prop} [Decidable P] [Decidable R] : WP d 133 119 [l0, l1, l2, l3] (vI (bI R) :: vI (bI P) :: st) X Q = if (P ↔ R) then WP d 133 122 [l0, l1, l2, l3] (st) X Q else WP d 133 162 [l0, l1, l2, l3] (st) X Q := w_icmpneb (by rfl) (by decide)
theorem s133_122 {l1 l2 l3 : Value}  : WP d 133 122 [.ref 82, l1, l2, l3] (st) X Q = WP d 133 123 [.ref 82, l1, l2, l3] (.ref 82 :: st) X Q := w_aload_n (by rfl) rfl (by decide)
theorem s133_123 {l0 l1 l2 : Value} {z1 : Int} : WP d 133 123 [l0, l1, l2, vI z1] (st) X Q = WP d 133 124 [l0, l1, l2, vI z1] (vI z1 :: st) X Q := w_iload_n (by rfl) rfl
theorem c133_124 {l0 l1 l2 l3 : Value} {z1 : Int} {X' : q_H} (hN : 82 < N) (hS : Sp d 130 [.ref 82, vI z1] (N, L, M) none X') : WP d 133 124 [l0, l1, l2, l3] (vI z1 :: .ref 82 :: []) (N, L, M) Q = WP d 133 127 [l0, l1, l2, l3] ([]) X' Q := w_callv (vs := [vI z1]) (by rfl) (by rfl) rfl (Nat.le_of_ble_eq_true rfl) (kd := 9) (by rfl) (by decide) (Or.inl hN) (by rfl) hS
theorem s133_127 {l1 l2 l3 : Value}  : WP d 133 127 [.ref 82, l1, l2, l3] (st) X Q = WP d 133 128 [.ref 82, l1, l2, l3] (.ref 82 :: st) X Q := w_aload_n (by rfl) rfl (by decide)
theorem s133_128 {l0 l1 l2 l3 : Value} (hN : 82 < N) : WP d 133 128 [l0, l1, l2, l3] (.ref 82 :: st) (N, L, M) Q = WP d 133 131 [l0, l1, l2, l3] (M 82 20 :: st) (N, L, M) Q := w_getf (by rfl) (by rfl) hN (by decide) (by rfl)
theorem s133_131 {l1 l2 l3 : Value}  : WP d 133 131 [.ref 82, l1, l2, l3] (st) X Q = WP d 133 132 [.ref 82, l1, l2, l3] (.ref 82 :: st) X Q := w_aload_n (by rfl) rfl (by decide)
theorem s133_132 {l0 l1 l2 l3 : Value} (hN : 82 < N) : WP d 133 132 [l0, l1, l2, l3] (.ref 82 :: st) (N, L, M) Q = WP d 133 135 [l0, l1, l2, l3] (M 82 22 :: st) (N, L, M) Q := w_getf (by rfl) (by rfl) hN (by decide) (by rfl)
theorem s133_135 {l0 l1 l2 : Value} {z1 : Int} : WP d 133 135 [l0, l1, l2, vI z1] (st) X Q = WP d 133 136 [l0, l1, l2, vI z1] (vI z1 :: st) X Q := w_iload_n (by rfl) rfl
theorem s133_136 {l0 l1 l2 l3 : Value} {j1 : Int} {z2 : Int} (hj : 0 ≤ j1 ∧ j1 < 101) (hN : 95 < N) : WP d 133 136 [l0, l1, l2, l3] (vI z2 :: vI j1 :: .ref 95 :: st) (N, L, M) Q = WP d 133 137 [l0, l1, l2, l3] (st) (N, L, up M 95 j1.toNat (vI z2)) Q := w_iast (by rfl) (m := 101) (by rfl) hN hj (by decide)
theorem s133_137 {l1 l2 l3 : Value}  : WP d 133 137 [.ref 82, l1, l2, l3] (st) X Q = WP d 133 138 [.ref 82, l1, l2, l3] (.ref 82 :: st) X Q := w_aload_n (by rfl) rfl (by decide)
theorem s133_138 {l0 l1 l2 l3 : Value} {a1 : Nat} : WP d 133 138 [l0, l1, l2, l3] (.ref a1 :: st) X Q = WP d 133 139 [l0, l1, l2, l3] (.ref a1 :: .ref a1 :: st) X Q := w_dup (by rfl) rfl
theorem s133_139 {l0 l1 l2 l3 : Value} (hN : 82 < N) : WP d 133 139 [l0, l1, l2, l3] (.ref 82 :: st) (N, L, M) Q = WP d 133 142 [l0, l1, l2, l3] (M 82 22 :: st) (N, L, M) Q := w_getf (by rfl) (by rfl) hN (by decide) (by rfl)
theorem s133_142 {l0 l1 l2 l3 : Value}  : WP d 133 142 [l0, l1, l2, l3] (st) X Q = WP d 133 143 [l0, l1, l2, l3] (vI (1) :: st) X Q := w_iconst (by rfl)
theorem s133_143 {l0 l1 l2 l3 : Value} {z1 : Int} {z2 : Int} : WP d 133 143 [l0, l1, l2, l3] (vI z2 :: vI z1 :: st) X Q = WP d 133 144 [l0, l1, l2, l3] (vI (z1 + z2) :: st) X Q := w_iadd (by rfl)
theorem s133_144 {l0 l1 l2 l3 : Value} {z1 : Int} (hN : 82 < N) : WP d 133 144 [l0, l1, l2, l3] (vI z1 :: .ref 82 :: st) (N, L, M) Q = WP d 133 147 [l0, l1, l2, l3] (st) (N, L, up M 82 22 (vI z1)) Q := w_putf (ci := 9) (by rfl) (by rfl) (by decide) hN (by rfl) (q_fit_int rfl _)
theorem s133_147 {l0 l1 l2 l3 : Value}  : WP d 133 147 [l0, l1, l2, l3] (st) X Q = WP d 133 148 [l0, l1, l2, l3] (vI (1) :: st) X Q := w_iconst (by rfl)
theorem s133_148 {l0 l2 l3 : Value} {z1 : Int} {z2 : Int} : WP d 133 148 [l0, vI z1, l2, l3] (vI z2 :: st) X Q = WP d 133 149 [l0, vI z1, vI z2, l3] (st) X Q := w_istore_n (by rfl) (q_okb_s rfl rfl) (Nat.le_of_ble_eq_true rfl) rfl
theorem s133_149 {l1 l2 l3 : Value}  : WP d 133 149 [.ref 82, l1, l2, l3] (st) X Q = WP d 133 150 [.ref 82, l1, l2, l3] (.ref 82 :: st) X Q := w_aload_n (by rfl) rfl (by decide)
theorem s133_150 {l0 l1 l2 l3 : Value} {a1 : Nat} : WP d 133 150 [l0, l1, l2, l3] (.ref a1 :: st) X Q = WP d 133 151 [l0, l1, l2, l3] (.ref a1 :: .ref a1 :: st) X Q := w_dup (by rfl) rfl
theorem s133_151 {l0 l1 l2 l3 : Value} (hN : 82 < N) : WP d 133 151 [l0, l1, l2, l3] (.ref 82 :: st) (N, L, M) Q = WP d 133 154 [l0, l1, l2, l3] (M 82 11 :: st) (N, L, M) Q := w_getf (by rfl) (by rfl) hN (by decide) (by rfl)
theorem s133_154 {l0 l1 l2 l3 : Value}  : WP d 133 154 [l0, l1, l2, l3] (st) X Q = WP d 133 155 [l0, l1, l2, l3] (vI (1) :: st) X Q := w_iconst (by rfl)
theorem s133_155 {l0 l1 l2 l3 : Value} {z1 : Int} {z2 : Int} : WP d 133 155 [l0, l1, l2, l3] (vI z2 :: vI z1 :: st) X Q = WP d 133 156 [l0, l1, l2, l3] (vI (z1 + z2) :: st) X Q := w_iadd (by rfl)
theorem s133_156 {l0 l1 l2 l3 : Value} {z1 : Int} (hN : 82 < N) : WP d 133 156 [l0, l1, l2, l3] (vI z1 :: .ref 82 :: st) (N, L, M) Q = WP d 133 159 [l0, l1, l2, l3] (st) (N, L, up M 82 11 (vI z1)) Q := w_putf (ci := 9) (by rfl) (by rfl) (by decide) hN (by rfl) (q_fit_int rfl _)
theorem s133_159 {l0 l1 l2 l3 : Value}  : WP d 133 159 [l0, l1, l2, l3] (st) X Q = WP d 133 22 [l0, l1, l2, l3] (st) X Q := w_goto (by rfl) (by decide)
theorem s133_162 {l1 l2 l3 : Value}  : WP d 133 162 [.ref 82, l1, l2, l3] (st) X Q = WP d 133 163 [.ref 82, l1, l2, l3] (.ref 82 :: st) X Q := w_aload_n (by rfl) rfl (by decide)
theorem s133_163 {l0 l1 l2 l3 : Value}  : WP d 133 163 [l0, l1, l2, l3] (st) X Q = WP d 133 165 [l0, l1, l2, l3] (vI (124) :: st) X Q := w_bipush (by rfl) (by decide)
theorem c133_165 {l0 l1 l2 l3 : Value} {z1 : Int} {X' : q_H} (hN : 82 < N) (hS : Sp d 130 [.ref 82, vI z1] (N, L, M) none X') : WP d 133 165 [l0, l1, l2, l3] (vI z1 :: .ref 82 :: []) (N, L, M) Q = WP d 133 168 [l0, l1, l2, l3] ([]) X' Q := w_callv (vs := [vI z1]) (by rfl) (by rfl) rfl (Nat.le_of_ble_eq_true rfl) (kd := 9) (by rfl) (by decide) (Or.inl hN) (by rfl) hS
theorem s133_168 {l1 l2 l3 : Value}  : WP d 133 168 [.ref 82, l1, l2, l3] (st) X Q = WP d 133 169 [.ref 82, l1, l2, l3] (.ref 82 :: st) X Q := w_aload_n (by rfl) rfl (by decide)
theorem s133_169 {l0 l1 l2 l3 : Value} (hN : 82 < N) : WP d 133 169 [l0, l1, l2, l3] (.ref 82 :: st) (N, L, M) Q = WP d 133 172 [l0, l1, l2, l3] (M 82 18 :: st) (N, L, M) Q := w_getf (by rfl) (by rfl) hN (by decide) (by rfl)
theorem s133_172 {l0 l2 l3 : Value} {z1 : Int} : WP d 133 172 [l0, vI z1, l2, l3] (st) X Q = WP d 133 173 [l0, vI z1, l2, l3] (vI z1 :: st) X Q := w_iload_n (by rfl) rfl
theorem s133_173 {l1 l2 l3 : Value}  : WP d 133 173 [.ref 82, l1, l2, l3] (st) X Q = WP d 133 174 [.ref 82, l1, l2, l3] (.ref 82 :: st) X Q := w_aload_n (by rfl) rfl (by decide)
theorem s133_174 {l0 l1 l2 l3 : Value} (hN : 82 < N) : WP d 133 174 [l0, l1, l2, l3] (.ref 82 :: st) (N, L, M) Q = WP d 133 177 [l0, l1, l2, l3] (M 82 21 :: st) (N, L, M) Q := w_getf (by rfl) (by rfl) hN (by decide) (by rfl)
theorem s133_177 {l0 l1 l2 l3 : Value} {j1 : Int} {z2 : Int} (hj : 0 ≤ j1 ∧ j1 < 60) (hN : 93 < N) : WP d 133 177 [l0, l1, l2, l3] (vI z2 :: vI j1 :: .ref 93 :: st) (N, L, M) Q = WP d 133 178 [l0, l1, l2, l3] (st) (N, L, up M 93 j1.toNat (vI z2)) Q := w_iast (by rfl) (m := 60) (by rfl) hN hj (by decide)
theorem s133_178 {l1 l2 l3 : Value}  : WP d 133 178 [.ref 82, l1, l2, l3] (st) X Q = WP d 133 179 [.ref 82, l1, l2, l3] (.ref 82 :: st) X Q := w_aload_n (by rfl) rfl (by decide)
theorem s133_179 {l0 l1 l2 l3 : Value} (hN : 82 < N) : WP d 133 179 [l0, l1, l2, l3] (.ref 82 :: st) (N, L, M) Q = WP d 133 182 [l0, l1, l2, l3] (M 82 22 :: st) (N, L, M) Q := w_getf (by rfl) (by rfl) hN (by decide) (by rfl)
theorem s133_182 {l0 l1 l2 l3 : Value} {z1 : Int} (h1 : -2147483648 ≤ z1 ∧ z1 ≤ 2147483647) : WP d 133 182 [l0, l1, l2, l3] (vI z1 :: st) X Q = if z1 = 0 then WP d 133 185 [l0, l1, l2, l3] (st) X Q else WP d 133 187 [l0, l1, l2, l3] (st) X Q := w_ifne (by rfl) (by decide) h1
theorem s133_182b {l0 l1 l2 l3 : Value} {P : Prop} [Decidable P] : WP d 133 182 [l0, l1, l2, l3] (vI (bI P) :: st) X Q = if P then WP d 133 187 [l0, l1, l2, l3] (st) X Q else WP d 133 185 [l0, l1, l2, l3] (st) X Q := w_ifneb (by rfl) (by decide)
theorem s133_185 {l0 l1 l2 l3 : Value}  : WP d 133 185 [l0, l1, l2, l3] (st) X Q = WP d 133 186 [l0, l1, l2, l3] (vI (1) :: st) X Q := w_iconst (by rfl)
theorem s133_186 {l0 l1 l2 l3 : Value} {z1 : Int} (hz : z1 = 0 ∨ z1 = 1) : WP d 133 186 [l0, l1, l2, l3] (vI z1 :: []) X Q = Q (some (vI z1)) X := w_iretz (by rfl) (by rfl) (nb_bool hz)
theorem s133_186b {l0 l1 l2 l3 : Value} {P : Prop} [Decidable P] : WP d 133 186 [l0, l1, l2, l3] (vI (bI P) :: []) X Q = Q (some (vI (bI P))) X := w_iretz (by rfl) (by rfl) (nb_bool (bI_01 P))
theorem s133_187 {l0 l1 l2 : Value} {z1 : Int} : WP d 133 187 [l0, l1, l2, vI z1] (st) X Q = WP d 133 188 [l0, l1, l2, vI z1] (vI z1 :: st) X Q := w_iload_n (by rfl) rfl
theorem s133_188 {l0 l1 l2 l3 : Value}  : WP d 133 188 [l0, l1, l2, l3] (st) X Q = WP d 133 190 [l0, l1, l2, l3] (vI (41) :: st) X Q := w_bipush (by rfl) (by decide)
theorem s133_190 {l0 l1 l2 l3 : Value} {z1 : Int} {z2 : Int} (h1 : -2147483648 ≤ z1 ∧ z1 ≤ 2147483647) (h2 : -2147483648 ≤ z2 ∧ z2 ≤ 2147483647) : WP d 133 190 [l0, l1, l2, l3] (vI z2 :: vI z1 :: st) X Q = if z1 = z2 then WP d 133 195 [l0, l1, l2, l3] (st) X Q else WP d 133 193 [l0, l1, l2, l3] (st) X Q := w_icmpeq (by rfl) (by decide) h1 h2
theorem s133_190b {l0 l1 l2 l3 : Value} {P R : Prop} [Decidable P] [Decidable R] : WP d 133 190 [l0, l1, l2, l3] (vI (bI R) :: vI (bI P) :: st) X Q = if (P ↔ R) then WP d 133 195 [l0, l1, l2, l3] (st) X Q else WP d 133 193 [l0, l1, l2, l3] (st) X Q := w_icmpeqb (by rfl) (by decide)
theorem s133_193 {l0 l1 l2 l3 : Value}  : WP d 133 193 [l0, l1, l2, l3] (st) X Q = WP d 133 194 [l0, l1, l2, l3] (vI (0) :: st) X Q := w_iconst (by rfl)
theorem s133_194 {l0 l1 l2 l3 : Value} {z1 : Int} (hz : z1 = 0 ∨ z1 = 1) : WP d 133 194 [l0, l1, l2, l3] (vI z1 :: []) X Q = Q (some (vI z1)) X := w_iretz (by rfl) (by rfl) (nb_bool hz)
theorem s133_194b {l0 l1 l2 l3 : Value} {P : Prop} [Decidable P] : WP d 133 194 [l0, l1, l2, l3] (vI (bI P) :: []) X Q = Q (some (vI (bI P))) X := w_iretz (by rfl) (by rfl) (nb_bool (bI_01 P))
theorem s133_195 {l1 l2 l3 : Value}  : WP d 133 195 [.ref 82, l1, l2, l3] (st) X Q = WP d 133 196 [.ref 82, l1, l2, l3] (.ref 82 :: st) X Q := w_aload_n (by rfl) rfl (by decide)
theorem s133_196 {l0 l1 l2 l3 : Value} {a1 : Nat} : WP d 133 196 [l0, l1, l2, l3] (.ref a1 :: st) X Q = WP d 133 197 [l0, l1, l2, l3] (.ref a1 :: .ref a1 :: st) X Q := w_dup (by rfl) rfl
theorem s133_197 {l0 l1 l2 l3 : Value} (hN : 82 < N) : WP d 133 197 [l0, l1, l2, l3] (.ref 82 :: st) (N, L, M) Q = WP d 133 200 [l0, l1, l2, l3] (M 82 22 :: st) (N, L, M) Q := w_getf (by rfl) (by rfl) hN (by decide) (by rfl)
theorem s133_200 {l0 l1 l2 l3 : Value}  : WP d 133 200 [l0, l1, l2, l3] (st) X Q = WP d 133 201 [l0, l1, l2, l3] (vI (1) :: st) X Q := w_iconst (by rfl)
theorem s133_201 {l0 l1 l2 l3 : Value} {z1 : Int} {z2 : Int} : WP d 133 201 [l0, l1, l2, l3] (vI z2 :: vI z1 :: st) X Q = WP d 133 202 [l0, l1, l2, l3] (vI (z1 - z2) :: st) X Q := w_isub (by rfl)
theorem s133_202 {l0 l1 l2 l3 : Value} {z1 : Int} (hN : 82 < N) : WP d 133 202 [l0, l1, l2, l3] (vI z1 :: .ref 82 :: st) (N, L, M) Q = WP d 133 205 [l0, l1, l2, l3] (st) (N, L, up M 82 22 (vI z1)) Q := w_putf (ci := 9) (by rfl) (by rfl) (by decide) hN (by rfl) (q_fit_int rfl _)
theorem s133_205 {l1 l2 l3 : Value}  : WP d 133 205 [.ref 82, l1, l2, l3] (st) X Q = WP d 133 206 [.ref 82, l1, l2, l3] (.ref 82 :: st) X Q := w_aload_n (by rfl) rfl (by decide)
theorem s133_206 {l0 l1 l2 l3 : Value} {a1 : Nat} : WP d 133 206 [l0, l1, l2, l3] (.ref a1 :: st) X Q = WP d 133 207 [l0, l1, l2, l3] (.ref a1 :: .ref a1 :: st) X Q := w_dup (by rfl) rfl
theorem s133_207 {l0 l1 l2 l3 : Value} (hN : 82 < N) : WP d 133 207 [l0, l1, l2, l3] (.ref 82 :: st) (N, L, M) Q = WP d 133 210 [l0, l1, l2, l3] (M 82 23 :: st) (N, L, M) Q := w_getf (by rfl) (by rfl) hN (by decide) (by rfl)
theorem s133_210 {l0 l1 l2 l3 : Value}  : WP d 133 210 [l0, l1, l2, l3] (st) X Q = WP d 133 211 [l0, l1, l2, l3] (vI (1) :: st) X Q := w_iconst (by rfl)
theorem s133_211 {l0 l1 l2 l3 : Value} {z1 : Int} {z2 : Int} : WP d 133 211 [l0, l1, l2, l3] (vI z2 :: vI z1 :: st) X Q = WP d 133 212 [l0, l1, l2, l3] (vI (z1 - z2) :: st) X Q := w_isub (by rfl)
theorem s133_212 {l0 l1 l2 l3 : Value} {z1 : Int} (hN : 82 < N) : WP d 133 212 [l0, l1, l2, l3] (vI z1 :: .ref 82 :: st) (N, L, M) Q = WP d 133 215 [l0, l1, l2, l3] (st) (N, L, up M 82 23 (vI z1)) Q := w_putf (ci := 9) (by rfl) (by rfl) (by decide) hN (by rfl) (q_fit_int rfl _)
theorem s133_215 {l1 l2 l3 : Value}  : WP d 133 215 [.ref 82, l1, l2, l3] (st) X Q = WP d 133 216 [.ref 82, l1, l2, l3] (.ref 82 :: st) X Q := w_aload_n (by rfl) rfl (by decide)
theorem s133_216 {l0 l1 l2 l3 : Value} {a1 : Nat} : WP d 133 216 [l0, l1, l2, l3] (.ref a1 :: st) X Q = WP d 133 217 [l0, l1, l2, l3] (.ref a1 :: .ref a1 :: st) X Q := w_dup (by rfl) rfl
theorem s133_217 {l0 l1 l2 l3 : Value} (hN : 82 < N) : WP d 133 217 [l0, l1, l2, l3] (.ref 82 :: st) (N, L, M) Q = WP d 133 220 [l0, l1, l2, l3] (M 82 11 :: st) (N, L, M) Q := w_getf (by rfl) (by rfl) hN (by decide) (by rfl)
theorem s133_220 {l0 l1 l2 l3 : Value}  : WP d 133 220 [l0, l1, l2, l3] (st) X Q = WP d 133 221 [l0, l1, l2, l3] (vI (1) :: st) X Q := w_iconst (by rfl)
theorem s133_221 {l0 l1 l2 l3 : Value} {z1 : Int} {z2 : Int} : WP d 133 221 [l0, l1, l2, l3] (vI z2 :: vI z1 :: st) X Q = WP d 133 222 [l0, l1, l2, l3] (vI (z1 + z2) :: st) X Q := w_iadd (by rfl)
theorem s133_222 {l0 l1 l2 l3 : Value} {z1 : Int} (hN : 82 < N) : WP d 133 222 [l0, l1, l2, l3] (vI z1 :: .ref 82 :: st) (N, L, M) Q = WP d 133 225 [l0, l1, l2, l3] (st) (N, L, up M 82 11 (vI z1)) Q := w_putf (ci := 9) (by rfl) (by rfl) (by decide) hN (by rfl) (q_fit_int rfl _)
theorem s133_225 {l1 l2 l3 : Value}  : WP d 133 225 [.ref 82, l1, l2, l3] (st) X Q = WP d 133 226 [.ref 82, l1, l2, l3] (.ref 82 :: st) X Q := w_aload_n (by rfl) rfl (by decide)
theorem c133_226 {l0 l1 l2 l3 : Value} {X' : q_H} (hN : 82 < N) (hS : Sp d 129 [.ref 82] (N, L, M) none X') : WP d 133 226 [l0, l1, l2, l3] (.ref 82 :: []) (N, L, M) Q = WP d 133 229 [l0, l1, l2, l3] ([]) X' Q := w_callv (vs := []) (by rfl) (by rfl) rfl (Nat.le_of_ble_eq_true rfl) (kd := 9) (by rfl) (by decide) (Or.inl hN) (by rfl) hS
theorem s133_229 {l0 l1 l2 l3 : Value}  : WP d 133 229 [l0, l1, l2, l3] (st) X Q = WP d 133 22 [l0, l1, l2, l3] (st) X Q := w_goto (by rfl) (by decide)
/-! 134 BellsThatEatModel.takesHead -/
theorem e134 {d : Nat} {X : q_H} {z1 : Int} {r : Option Value} {X' : q_H} (hd : 1 ≤ d) (h : WP (d - 1) 134 0 [.ref 82, vI z1] [] X (fun r1 X1 => r1 = r ∧ X1 = X')) : Sp d 134 [.ref 82, vI z1] X r X' := Sp.of1 hd (vs := [.ref 82, vI z1]) (ls := [.ref 82, vI z1]) (by rfl) (by rfl) h
theorem E134 {d : Nat} {X : q_H} {z1 : Int} {Q : Option Value → q_H → Prop} (hd : 1 ≤ d) (h : WP (d - 1) 134 0 [.ref 82, vI z1] [] X Q) : ∃ r X', Sp d 134 [.ref 82, vI z1] X r X' ∧ Q r X' := Sp.of2 hd (vs := [.ref 82, vI z1]) (ls := [.ref 82, vI z1]) (by rfl) (by rfl) h
theorem s134_0 {l1 : Value}  : WP d 134 0 [.ref 82, l1] (st) X Q = WP d 134 1 [.ref 82, l1] (.ref 82 :: st) X Q := w_aload_n (by rfl) rfl (by decide)
theorem c134_1 {l0 l1 : Value} {r : Int} {X' : q_H} (hN : 82 < N) (hS : Sp d 122 [.ref 82] (N, L, M) (some (vI r)) X') : WP d 134 1 [l0, l1] (.ref 82 :: []) (N, L, M) Q = WP d 134 4 [l0, l1] (vI r :: []) X' Q := w_callv (vs := []) (by rfl) (by rfl) rfl (Nat.le_of_ble_eq_true rfl) (kd := 9) (by rfl) (by decide) (Or.inl hN) (by rfl) hS
theorem s134_4 {l0 l1 : Value} {z1 : Int} (h1 : -2147483648 ≤ z1 ∧ z1 ≤ 2147483647) : WP d 134 4 [l0, l1] (vI z1 :: st) X Q = if z1 = 103 then WP d 134 47 [l0, l1] (st) X Q else if z1 = 116 then WP d 134 32 [l0, l1] (st) X Q else WP d 134 62 [l0, l1] (st) X Q := by
  by_cases e0 : z1 = 103
  · subst e0; rw [if_pos rfl]; exact w_lsw (by rfl) (by decide) (by decide) (by rfl) (by decide)
  rw [if_neg e0]
  by_cases e1 : z1 = 116
  · subst e1; rw [if_pos rfl]; exact w_lsw (by rfl) (by decide) (by decide) (by rfl) (by decide)
  rw [if_neg e1]
  exact w_lsw (o := 58) (by rfl) h1 (by decide) (by show Op.lookupswitch.offset [(103, 43), (116, 28)] (58) z1 = _; rw [Op.lookupswitch.offset_cons, if_neg (fun h => e0 h.symm), Op.lookupswitch.offset_cons, if_neg (fun h => e1 h.symm)]; rfl) (by decide)
theorem s134_32 {l1 : Value}  : WP d 134 32 [.ref 82, l1] (st) X Q = WP d 134 33 [.ref 82, l1] (.ref 82 :: st) X Q := w_aload_n (by rfl) rfl (by decide)
theorem s134_33 {l0 l1 : Value} (hN : 82 < N) : WP d 134 33 [l0, l1] (.ref 82 :: st) (N, L, M) Q = WP d 134 36 [l0, l1] (M 82 15 :: st) (N, L, M) Q := w_getf (by rfl) (by rfl) hN (by decide) (by rfl)
theorem s134_36 {l0 : Value} {z1 : Int} : WP d 134 36 [l0, vI z1] (st) X Q = WP d 134 37 [l0, vI z1] (vI z1 :: st) X Q := w_iload_n (by rfl) rfl
theorem s134_37 {l0 l1 : Value}  : WP d 134 37 [l0, l1] (st) X Q = WP d 134 38 [l0, l1] (vI (2) :: st) X Q := w_iconst (by rfl)
theorem s134_38 {l0 l1 : Value} {j1 : Int} {z2 : Int} (hj : 0 ≤ j1 ∧ j1 < 60) (hN : 90 < N) : WP d 134 38 [l0, l1] (vI z2 :: vI j1 :: .ref 90 :: st) (N, L, M) Q = WP d 134 39 [l0, l1] (st) (N, L, up M 90 j1.toNat (vI z2)) Q := w_iast (by rfl) (m := 60) (by rfl) hN hj (by decide)
theorem s134_39 {l1 : Value}  : WP d 134 39 [.ref 82, l1] (st) X Q = WP d 134 40 [.ref 82, l1] (.ref 82 :: st) X Q := w_aload_n (by rfl) rfl (by decide)
theorem s134_40 {l0 l1 : Value}  : WP d 134 40 [l0, l1] (st) X Q = WP d 134 42 [l0, l1] (vI (12) :: st) X Q := w_bipush (by rfl) (by decide)
theorem s134_42 {l0 l1 : Value}  : WP d 134 42 [l0, l1] (st) X Q = WP d 134 43 [l0, l1] (vI (4) :: st) X Q := w_iconst (by rfl)
theorem c134_43 {l0 l1 : Value} {z1 : Int} {z2 : Int} {r : Int} {X' : q_H} (hN : 82 < N) (hS : Sp d 125 [.ref 82, vI z1, vI z2] (N, L, M) (some (vI r)) X') : WP d 134 43 [l0, l1] (vI z2 :: vI z1 :: .ref 82 :: []) (N, L, M) Q = WP d 134 46 [l0, l1] (vI r :: []) X' Q := w_callv (vs := [vI z1, vI z2]) (by rfl) (by rfl) rfl (Nat.le_of_ble_eq_true rfl) (kd := 9) (by rfl) (by decide) (Or.inl hN) (by rfl) hS
theorem s134_46 {l0 l1 : Value} {z1 : Int} (hz : z1 = 0 ∨ z1 = 1) : WP d 134 46 [l0, l1] (vI z1 :: []) X Q = Q (some (vI z1)) X := w_iretz (by rfl) (by rfl) (nb_bool hz)
theorem s134_46b {l0 l1 : Value} {P : Prop} [Decidable P] : WP d 134 46 [l0, l1] (vI (bI P) :: []) X Q = Q (some (vI (bI P))) X := w_iretz (by rfl) (by rfl) (nb_bool (bI_01 P))
theorem s134_47 {l1 : Value}  : WP d 134 47 [.ref 82, l1] (st) X Q = WP d 134 48 [.ref 82, l1] (.ref 82 :: st) X Q := w_aload_n (by rfl) rfl (by decide)
theorem s134_48 {l0 l1 : Value} (hN : 82 < N) : WP d 134 48 [l0, l1] (.ref 82 :: st) (N, L, M) Q = WP d 134 51 [l0, l1] (M 82 15 :: st) (N, L, M) Q := w_getf (by rfl) (by rfl) hN (by decide) (by rfl)
theorem s134_51 {l0 : Value} {z1 : Int} : WP d 134 51 [l0, vI z1] (st) X Q = WP d 134 52 [l0, vI z1] (vI z1 :: st) X Q := w_iload_n (by rfl) rfl
theorem s134_52 {l0 l1 : Value}  : WP d 134 52 [l0, l1] (st) X Q = WP d 134 53 [l0, l1] (vI (3) :: st) X Q := w_iconst (by rfl)
theorem s134_53 {l0 l1 : Value} {j1 : Int} {z2 : Int} (hj : 0 ≤ j1 ∧ j1 < 60) (hN : 90 < N) : WP d 134 53 [l0, l1] (vI z2 :: vI j1 :: .ref 90 :: st) (N, L, M) Q = WP d 134 54 [l0, l1] (st) (N, L, up M 90 j1.toNat (vI z2)) Q := w_iast (by rfl) (m := 60) (by rfl) hN hj (by decide)
theorem s134_54 {l1 : Value}  : WP d 134 54 [.ref 82, l1] (st) X Q = WP d 134 55 [.ref 82, l1] (.ref 82 :: st) X Q := w_aload_n (by rfl) rfl (by decide)
theorem s134_55 {l0 l1 : Value}  : WP d 134 55 [l0, l1] (st) X Q = WP d 134 57 [l0, l1] (vI (16) :: st) X Q := w_bipush (by rfl) (by decide)
theorem s134_57 {l0 l1 : Value}  : WP d 134 57 [l0, l1] (st) X Q = WP d 134 58 [l0, l1] (vI (4) :: st) X Q := w_iconst (by rfl)
theorem c134_58 {l0 l1 : Value} {z1 : Int} {z2 : Int} {r : Int} {X' : q_H} (hN : 82 < N) (hS : Sp d 125 [.ref 82, vI z1, vI z2] (N, L, M) (some (vI r)) X') : WP d 134 58 [l0, l1] (vI z2 :: vI z1 :: .ref 82 :: []) (N, L, M) Q = WP d 134 61 [l0, l1] (vI r :: []) X' Q := w_callv (vs := [vI z1, vI z2]) (by rfl) (by rfl) rfl (Nat.le_of_ble_eq_true rfl) (kd := 9) (by rfl) (by decide) (Or.inl hN) (by rfl) hS
theorem s134_61 {l0 l1 : Value} {z1 : Int} (hz : z1 = 0 ∨ z1 = 1) : WP d 134 61 [l0, l1] (vI z1 :: []) X Q = Q (some (vI z1)) X := w_iretz (by rfl) (by rfl) (nb_bool hz)
theorem s134_61b {l0 l1 : Value} {P : Prop} [Decidable P] : WP d 134 61 [l0, l1] (vI (bI P) :: []) X Q = Q (some (vI (bI P))) X := w_iretz (by rfl) (by rfl) (nb_bool (bI_01 P))
theorem s134_62 {l1 : Value}  : WP d 134 62 [.ref 82, l1] (st) X Q = WP d 134 63 [.ref 82, l1] (.ref 82 :: st) X Q := w_aload_n (by rfl) rfl (by decide)
theorem s134_63 {l0 l1 : Value} (hN : 82 < N) : WP d 134 63 [l0, l1] (.ref 82 :: st) (N, L, M) Q = WP d 134 66 [l0, l1] (M 82 15 :: st) (N, L, M) Q := w_getf (by rfl) (by rfl) hN (by decide) (by rfl)
theorem s134_66 {l0 : Value} {z1 : Int} : WP d 134 66 [l0, vI z1] (st) X Q = WP d 134 67 [l0, vI z1] (vI z1 :: st) X Q := w_iload_n (by rfl) rfl
theorem s134_67 {l1 : Value}  : WP d 134 67 [.ref 82, l1] (st) X Q = WP d 134 68 [.ref 82, l1] (.ref 82 :: st) X Q := w_aload_n (by rfl) rfl (by decide)
theorem c134_68 {l0 l1 : Value} {x0 x1 : Value} {r : Int} {X' : q_H} (hN : 82 < N) (hS : Sp d 123 [.ref 82] (N, L, M) (some (vI r)) X') : WP d 134 68 [l0, l1] (.ref 82 :: x0 :: x1 :: []) (N, L, M) Q = WP d 134 71 [l0, l1] (vI r :: x0 :: x1 :: []) X' Q := w_callv (vs := []) (by rfl) (by rfl) rfl (Nat.le_of_ble_eq_true rfl) (kd := 9) (by rfl) (by decide) (Or.inl hN) (by rfl) hS
theorem s134_71 {l0 l1 : Value}  : WP d 134 71 [l0, l1] (st) X Q = WP d 134 73 [l0, l1] (vI (105) :: st) X Q := w_bipush (by rfl) (by decide)
theorem s134_73 {l0 l1 : Value} {z1 : Int} {z2 : Int} (h1 : -2147483648 ≤ z1 ∧ z1 ≤ 2147483647) (h2 : -2147483648 ≤ z2 ∧ z2 ≤ 2147483647) : WP d 134 73 [l0, l1] (vI z2 :: vI z1 :: st) X Q = if z1 = z2 then WP d 134 76 [l0, l1] (st) X Q else WP d 134 80 [l0, l1] (st) X Q := w_icmpne (by rfl) (by decide) h1 h2
theorem s134_73b {l0 l1 : Value} {P R : Prop} [Decidable P] [Decidable R] : WP d 134 73 [l0, l1] (vI (bI R) :: vI (bI P) :: st) X Q = if (P ↔ R) then WP d 134 76 [l0, l1] (st) X Q else WP d 134 80 [l0, l1] (st) X Q := w_icmpneb (by rfl) (by decide)
theorem s134_76 {l0 l1 : Value}  : WP d 134 76 [l0, l1] (st) X Q = WP d 134 77 [l0, l1] (vI (0) :: st) X Q := w_iconst (by rfl)
theorem s134_77 {l0 l1 : Value}  : WP d 134 77 [l0, l1] (st) X Q = WP d 134 81 [l0, l1] (st) X Q := w_goto (by rfl) (by decide)
theorem s134_80 {l0 l1 : Value}  : WP d 134 80 [l0, l1] (st) X Q = WP d 134 81 [l0, l1] (vI (1) :: st) X Q := w_iconst (by rfl)
theorem s134_81 {l0 l1 : Value} {j1 : Int} {z2 : Int} (hj : 0 ≤ j1 ∧ j1 < 60) (hN : 90 < N) : WP d 134 81 [l0, l1] (vI z2 :: vI j1 :: .ref 90 :: st) (N, L, M) Q = WP d 134 82 [l0, l1] (st) (N, L, up M 90 j1.toNat (vI z2)) Q := w_iast (by rfl) (m := 60) (by rfl) hN hj (by decide)
theorem s134_82 {l1 : Value}  : WP d 134 82 [.ref 82, l1] (st) X Q = WP d 134 83 [.ref 82, l1] (.ref 82 :: st) X Q := w_aload_n (by rfl) rfl (by decide)
theorem s134_83 {l0 l1 : Value} (hN : 82 < N) : WP d 134 83 [l0, l1] (.ref 82 :: st) (N, L, M) Q = WP d 134 86 [l0, l1] (M 82 15 :: st) (N, L, M) Q := w_getf (by rfl) (by rfl) hN (by decide) (by rfl)
theorem s134_86 {l0 : Value} {z1 : Int} : WP d 134 86 [l0, vI z1] (st) X Q = WP d 134 87 [l0, vI z1] (vI z1 :: st) X Q := w_iload_n (by rfl) rfl
theorem s134_87 {l0 l1 : Value} {j1 : Int} (hj : 0 ≤ j1 ∧ j1 < 60) (hN : 90 < N) : WP d 134 87 [l0, l1] (vI j1 :: .ref 90 :: st) (N, L, M) Q = WP d 134 88 [l0, l1] (M 90 j1.toNat :: st) (N, L, M) Q := w_iald (by rfl) (m := 60) (by rfl) hN (by decide) hj (by decide)
theorem s134_88 {l0 l1 : Value} {z1 : Int} (h1 : -2147483648 ≤ z1 ∧ z1 ≤ 2147483647) : WP d 134 88 [l0, l1] (vI z1 :: st) X Q = if z1 = 0 then WP d 134 91 [l0, l1] (st) X Q else WP d 134 100 [l0, l1] (st) X Q := w_ifne (by rfl) (by decide) h1
theorem s134_88b {l0 l1 : Value} {P : Prop} [Decidable P] : WP d 134 88 [l0, l1] (vI (bI P) :: st) X Q = if P then WP d 134 100 [l0, l1] (st) X Q else WP d 134 91 [l0, l1] (st) X Q := w_ifneb (by rfl) (by decide)
theorem s134_91 {l1 : Value}  : WP d 134 91 [.ref 82, l1] (st) X Q = WP d 134 92 [.ref 82, l1] (.ref 82 :: st) X Q := w_aload_n (by rfl) rfl (by decide)
theorem s134_92 {l0 l1 : Value}  : WP d 134 92 [l0, l1] (st) X Q = WP d 134 93 [l0, l1] (vI (0) :: st) X Q := w_iconst (by rfl)
theorem s134_93 {l0 l1 : Value}  : WP d 134 93 [l0, l1] (st) X Q = WP d 134 94 [l0, l1] (vI (5) :: st) X Q := w_iconst (by rfl)
theorem c134_94 {l0 l1 : Value} {z1 : Int} {z2 : Int} {r : Int} {X' : q_H} (hN : 82 < N) (hS : Sp d 125 [.ref 82, vI z1, vI z2] (N, L, M) (some (vI r)) X') : WP d 134 94 [l0, l1] (vI z2 :: vI z1 :: .ref 82 :: []) (N, L, M) Q = WP d 134 97 [l0, l1] (vI r :: []) X' Q := w_callv (vs := [vI z1, vI z2]) (by rfl) (by rfl) rfl (Nat.le_of_ble_eq_true rfl) (kd := 9) (by rfl) (by decide) (Or.inl hN) (by rfl) hS
theorem s134_97 {l0 l1 : Value}  : WP d 134 97 [l0, l1] (st) X Q = WP d 134 107 [l0, l1] (st) X Q := w_goto (by rfl) (by decide)
theorem s134_100 {l1 : Value}  : WP d 134 100 [.ref 82, l1] (st) X Q = WP d 134 101 [.ref 82, l1] (.ref 82 :: st) X Q := w_aload_n (by rfl) rfl (by decide)
theorem s134_101 {l0 l1 : Value}  : WP d 134 101 [l0, l1] (st) X Q = WP d 134 102 [l0, l1] (vI (5) :: st) X Q := w_iconst (by rfl)
theorem s134_102 {l0 l1 : Value}  : WP d 134 102 [l0, l1] (st) X Q = WP d 134 104 [l0, l1] (vI (7) :: st) X Q := w_bipush (by rfl) (by decide)
theorem c134_104 {l0 l1 : Value} {z1 : Int} {z2 : Int} {r : Int} {X' : q_H} (hN : 82 < N) (hS : Sp d 125 [.ref 82, vI z1, vI z2] (N, L, M) (some (vI r)) X') : WP d 134 104 [l0, l1] (vI z2 :: vI z1 :: .ref 82 :: []) (N, L, M) Q = WP d 134 107 [l0, l1] (vI r :: []) X' Q := w_callv (vs := [vI z1, vI z2]) (by rfl) (by rfl) rfl (Nat.le_of_ble_eq_true rfl) (kd := 9) (by rfl) (by decide) (Or.inl hN) (by rfl) hS
theorem s134_107 {l0 l1 : Value} {z1 : Int} (hz : z1 = 0 ∨ z1 = 1) : WP d 134 107 [l0, l1] (vI z1 :: []) X Q = Q (some (vI z1)) X := w_iretz (by rfl) (by rfl) (nb_bool hz)
theorem s134_107b {l0 l1 : Value} {P : Prop} [Decidable P] : WP d 134 107 [l0, l1] (vI (bI P) :: []) X Q = Q (some (vI (bI P))) X := w_iretz (by rfl) (by rfl) (nb_bool (bI_01 P))
/-! 135 BellsThatEatModel.takesClause -/
theorem e135 {d : Nat} {X : q_H} {z1 : Int} {r : Option Value} {X' : q_H} (hd : 1 ≤ d) (h : WP (d - 1) 135 0 [.ref 82, vI z1] [] X (fun r1 X1 => r1 = r ∧ X1 = X')) : Sp d 135 [.ref 82, vI z1] X r X' := Sp.of1 hd (vs := [.ref 82, vI z1]) (ls := [.ref 82, vI z1]) (by rfl) (by rfl) h
theorem E135 {d : Nat} {X : q_H} {z1 : Int} {Q : Option Value → q_H → Prop} (hd : 1 ≤ d) (h : WP (d - 1) 135 0 [.ref 82, vI z1] [] X Q) : ∃ r X', Sp d 135 [.ref 82, vI z1] X r X' ∧ Q r X' := Sp.of2 hd (vs := [.ref 82, vI z1]) (ls := [.ref 82, vI z1]) (by rfl) (by rfl) h
theorem s135_0 {l1 : Value}  : WP d 135 0 [.ref 82, l1] (st) X Q = WP d 135 1 [.ref 82, l1] (.ref 82 :: st) X Q := w_aload_n (by rfl) rfl (by decide)
theorem s135_1 {l0 : Value} {z1 : Int} : WP d 135 1 [l0, vI z1] (st) X Q = WP d 135 2 [l0, vI z1] (vI z1 :: st) X Q := w_iload_n (by rfl) rfl
theorem c135_2 {l0 l1 : Value} {z1 : Int} {r : Int} {X' : q_H} (hN : 82 < N) (hS : Sp d 134 [.ref 82, vI z1] (N, L, M) (some (vI r)) X') : WP d 135 2 [l0, l1] (vI z1 :: .ref 82 :: []) (N, L, M) Q = WP d 135 5 [l0, l1] (vI r :: []) X' Q := w_callv (vs := [vI z1]) (by rfl) (by rfl) rfl (Nat.le_of_ble_eq_true rfl) (kd := 9) (by rfl) (by decide) (Or.inl hN) (by rfl) hS
theorem s135_5 {l0 l1 : Value} {z1 : Int} (h1 : -2147483648 ≤ z1 ∧ z1 ≤ 2147483647) : WP d 135 5 [l0, l1] (vI z1 :: st) X Q = if z1 = 0 then WP d 135 15 [l0, l1] (st) X Q else WP d 135 8 [l0, l1] (st) X Q := w_ifeq (by rfl) (by decide) h1
theorem s135_5b {l0 l1 : Value} {P : Prop} [Decidable P] : WP d 135 5 [l0, l1] (vI (bI P) :: st) X Q = if P then WP d 135 8 [l0, l1] (st) X Q else WP d 135 15 [l0, l1] (st) X Q := w_ifeqb (by rfl) (by decide)
theorem s135_8 {l1 : Value}  : WP d 135 8 [.ref 82, l1] (st) X Q = WP d 135 9 [.ref 82, l1] (.ref 82 :: st) X Q := w_aload_n (by rfl) rfl (by decide)
theorem c135_9 {l0 l1 : Value} {r : Int} {X' : q_H} (hN : 82 < N) (hS : Sp d 127 [.ref 82] (N, L, M) (some (vI r)) X') : WP d 135 9 [l0, l1] (.ref 82 :: []) (N, L, M) Q = WP d 135 12 [l0, l1] (vI r :: []) X' Q := w_callv (vs := []) (by rfl) (by rfl) rfl (Nat.le_of_ble_eq_true rfl) (kd := 9) (by rfl) (by decide) (Or.inl hN) (by rfl) hS
theorem s135_12 {l0 l1 : Value} {z1 : Int} (h1 : -2147483648 ≤ z1 ∧ z1 ≤ 2147483647) : WP d 135 12 [l0, l1] (vI z1 :: st) X Q = if z1 = 0 then WP d 135 15 [l0, l1] (st) X Q else WP d 135 17 [l0, l1] (st) X Q := w_ifne (by rfl) (by decide) h1
theorem s135_12b {l0 l1 : Value} {P : Prop} [Decidable P] : WP d 135 12 [l0, l1] (vI (bI P) :: st) X Q = if P then WP d 135 17 [l0, l1] (st) X Q else WP d 135 15 [l0, l1] (st) X Q := w_ifneb (by rfl) (by decide)
theorem s135_15 {l0 l1 : Value}  : WP d 135 15 [l0, l1] (st) X Q = WP d 135 16 [l0, l1] (vI (0) :: st) X Q := w_iconst (by rfl)
theorem s135_16 {l0 l1 : Value} {z1 : Int} (hz : z1 = 0 ∨ z1 = 1) : WP d 135 16 [l0, l1] (vI z1 :: []) X Q = Q (some (vI z1)) X := w_iretz (by rfl) (by rfl) (nb_bool hz)
theorem s135_16b {l0 l1 : Value} {P : Prop} [Decidable P] : WP d 135 16 [l0, l1] (vI (bI P) :: []) X Q = Q (some (vI (bI P))) X := w_iretz (by rfl) (by rfl) (nb_bool (bI_01 P))
theorem s135_17 {l1 : Value}  : WP d 135 17 [.ref 82, l1] (st) X Q = WP d 135 18 [.ref 82, l1] (.ref 82 :: st) X Q := w_aload_n (by rfl) rfl (by decide)
theorem s135_18 {l0 l1 : Value} (hN : 82 < N) : WP d 135 18 [l0, l1] (.ref 82 :: st) (N, L, M) Q = WP d 135 21 [l0, l1] (M 82 16 :: st) (N, L, M) Q := w_getf (by rfl) (by rfl) hN (by decide) (by rfl)
theorem s135_21 {l0 : Value} {z1 : Int} : WP d 135 21 [l0, vI z1] (st) X Q = WP d 135 22 [l0, vI z1] (vI z1 :: st) X Q := w_iload_n (by rfl) rfl
theorem s135_22 {l1 : Value}  : WP d 135 22 [.ref 82, l1] (st) X Q = WP d 135 23 [.ref 82, l1] (.ref 82 :: st) X Q := w_aload_n (by rfl) rfl (by decide)
theorem s135_23 {l0 l1 : Value} (hN : 82 < N) : WP d 135 23 [l0, l1] (.ref 82 :: st) (N, L, M) Q = WP d 135 26 [l0, l1] (M 82 12 :: st) (N, L, M) Q := w_getf (by rfl) (by rfl) hN (by decide) (by rfl)
theorem s135_26 {l0 l1 : Value} {j1 : Int} {z2 : Int} (hj : 0 ≤ j1 ∧ j1 < 60) (hN : 91 < N) : WP d 135 26 [l0, l1] (vI z2 :: vI j1 :: .ref 91 :: st) (N, L, M) Q = WP d 135 27 [l0, l1] (st) (N, L, up M 91 j1.toNat (vI z2)) Q := w_iast (by rfl) (m := 60) (by rfl) hN hj (by decide)
theorem s135_27 {l1 : Value}  : WP d 135 27 [.ref 82, l1] (st) X Q = WP d 135 28 [.ref 82, l1] (.ref 82 :: st) X Q := w_aload_n (by rfl) rfl (by decide)
theorem s135_28 {l0 l1 : Value} (hN : 82 < N) : WP d 135 28 [l0, l1] (.ref 82 :: st) (N, L, M) Q = WP d 135 31 [l0, l1] (M 82 15 :: st) (N, L, M) Q := w_getf (by rfl) (by rfl) hN (by decide) (by rfl)
theorem s135_31 {l0 : Value} {z1 : Int} : WP d 135 31 [l0, vI z1] (st) X Q = WP d 135 32 [l0, vI z1] (vI z1 :: st) X Q := w_iload_n (by rfl) rfl
theorem s135_32 {l0 l1 : Value} {j1 : Int} (hj : 0 ≤ j1 ∧ j1 < 60) (hN : 90 < N) : WP d 135 32 [l0, l1] (vI j1 :: .ref 90 :: st) (N, L, M) Q = WP d 135 33 [l0, l1] (M 90 j1.toNat :: st) (N, L, M) Q := w_iald (by rfl) (m := 60) (by rfl) hN (by decide) hj (by decide)
theorem s135_33 {l0 l1 : Value}  : WP d 135 33 [l0, l1] (st) X Q = WP d 135 34 [l0, l1] (vI (2) :: st) X Q := w_iconst (by rfl)
theorem s135_34 {l0 l1 : Value} {z1 : Int} {z2 : Int} (h1 : -2147483648 ≤ z1 ∧ z1 ≤ 2147483647) (h2 : -2147483648 ≤ z2 ∧ z2 ≤ 2147483647) : WP d 135 34 [l0, l1] (vI z2 :: vI z1 :: st) X Q = if z1 < z2 then WP d 135 37 [l0, l1] (st) X Q else WP d 135 54 [l0, l1] (st) X Q := w_icmpge (by rfl) (by decide) h1 h2
theorem s135_37 {l1 : Value}  : WP d 135 37 [.ref 82, l1] (st) X Q = WP d 135 38 [.ref 82, l1] (.ref 82 :: st) X Q := w_aload_n (by rfl) rfl (by decide)
theorem s135_38 {l0 l1 : Value}  : WP d 135 38 [l0, l1] (st) X Q = WP d 135 40 [l0, l1] (vI (32) :: st) X Q := w_bipush (by rfl) (by decide)
theorem c135_40 {l0 l1 : Value} {z1 : Int} {r : Int} {X' : q_H} (hN : 82 < N) (hS : Sp d 124 [.ref 82, vI z1] (N, L, M) (some (vI r)) X') : WP d 135 40 [l0, l1] (vI z1 :: .ref 82 :: []) (N, L, M) Q = WP d 135 43 [l0, l1] (vI r :: []) X' Q := w_callv (vs := [vI z1]) (by rfl) (by rfl) rfl (Nat.le_of_ble_eq_true rfl) (kd := 9) (by rfl) (by decide) (Or.inl hN) (by rfl) hS
theorem s135_43 {l0 l1 : Value} {z1 : Int} (h1 : -2147483648 ≤ z1 ∧ z1 ≤ 2147483647) : WP d 135 43 [l0, l1] (vI z1 :: st) X Q = if z1 = 0 then WP d 135 58 [l0, l1] (st) X Q else WP d 135 46 [l0, l1] (st) X Q := w_ifeq (by rfl) (by decide) h1
theorem s135_43b {l0 l1 : Value} {P : Prop} [Decidable P] : WP d 135 43 [l0, l1] (vI (bI P) :: st) X Q = if P then WP d 135 46 [l0, l1] (st) X Q else WP d 135 58 [l0, l1] (st) X Q := w_ifeqb (by rfl) (by decide)
theorem s135_46 {l1 : Value}  : WP d 135 46 [.ref 82, l1] (st) X Q = WP d 135 47 [.ref 82, l1] (.ref 82 :: st) X Q := w_aload_n (by rfl) rfl (by decide)
theorem s135_47 {l0 : Value} {z1 : Int} : WP d 135 47 [l0, vI z1] (st) X Q = WP d 135 48 [l0, vI z1] (vI z1 :: st) X Q := w_iload_n (by rfl) rfl
theorem c135_48 {l0 l1 : Value} {z1 : Int} {r : Int} {X' : q_H} (hN : 82 < N) (hS : Sp d 133 [.ref 82, vI z1] (N, L, M) (some (vI r)) X') : WP d 135 48 [l0, l1] (vI z1 :: .ref 82 :: []) (N, L, M) Q = WP d 135 51 [l0, l1] (vI r :: []) X' Q := w_callv (vs := [vI z1]) (by rfl) (by rfl) rfl (Nat.le_of_ble_eq_true rfl) (kd := 9) (by rfl) (by decide) (Or.inl hN) (by rfl) hS
theorem s135_51 {l0 l1 : Value} {z1 : Int} (h1 : -2147483648 ≤ z1 ∧ z1 ≤ 2147483647) : WP d 135 51 [l0, l1] (vI z1 :: st) X Q = if z1 = 0 then WP d 135 58 [l0, l1] (st) X Q else WP d 135 54 [l0, l1] (st) X Q := w_ifeq (by rfl) (by decide) h1
theorem s135_51b {l0 l1 : Value} {P : Prop} [Decidable P] : WP d 135 51 [l0, l1] (vI (bI P) :: st) X Q = if P then WP d 135 54 [l0, l1] (st) X Q else WP d 135 58 [l0, l1] (st) X Q := w_ifeqb (by rfl) (by decide)
theorem s135_54 {l0 l1 : Value}  : WP d 135 54 [l0, l1] (st) X Q = WP d 135 55 [l0, l1] (vI (1) :: st) X Q := w_iconst (by rfl)
theorem s135_55 {l0 l1 : Value}  : WP d 135 55 [l0, l1] (st) X Q = WP d 135 59 [l0, l1] (st) X Q := w_goto (by rfl) (by decide)
theorem s135_58 {l0 l1 : Value}  : WP d 135 58 [l0, l1] (st) X Q = WP d 135 59 [l0, l1] (vI (0) :: st) X Q := w_iconst (by rfl)
theorem s135_59 {l0 l1 : Value} {z1 : Int} (hz : z1 = 0 ∨ z1 = 1) : WP d 135 59 [l0, l1] (vI z1 :: []) X Q = Q (some (vI z1)) X := w_iretz (by rfl) (by rfl) (nb_bool hz)
theorem s135_59b {l0 l1 : Value} {P : Prop} [Decidable P] : WP d 135 59 [l0, l1] (vI (bI P) :: []) X Q = Q (some (vI (bI P))) X := w_iretz (by rfl) (by rfl) (nb_bool (bI_01 P))
/-! 136 BellsThatEatModel.goesText -/
theorem e136 {d : Nat} {X : q_H} {z1 : Int} {r : Option Value} {X' : q_H} (hd : 1 ≤ d) (h : WP (d - 1) 136 0 [.ref 82, vI z1, .null] [] X (fun r1 X1 => r1 = r ∧ X1 = X')) : Sp d 136 [.ref 82, vI z1] X r X' := Sp.of1 hd (vs := [.ref 82, vI z1]) (ls := [.ref 82, vI z1, .null]) (by rfl) (by rfl) h
theorem E136 {d : Nat} {X : q_H} {z1 : Int} {Q : Option Value → q_H → Prop} (hd : 1 ≤ d) (h : WP (d - 1) 136 0 [.ref 82, vI z1, .null] [] X Q) : ∃ r X', Sp d 136 [.ref 82, vI z1] X r X' ∧ Q r X' := Sp.of2 hd (vs := [.ref 82, vI z1]) (ls := [.ref 82, vI z1, .null]) (by rfl) (by rfl) h
theorem s136_0 {l1 l2 : Value}  : WP d 136 0 [.ref 82, l1, l2] (st) X Q = WP d 136 1 [.ref 82, l1, l2] (.ref 82 :: st) X Q := w_aload_n (by rfl) rfl (by decide)
theorem s136_1 {l0 l1 l2 : Value}  : WP d 136 1 [l0, l1, l2] (st) X Q = WP d 136 2 [l0, l1, l2] (vI (0) :: st) X Q := w_iconst (by rfl)
theorem s136_2 {l0 l1 l2 : Value} {z1 : Int} (hN : 82 < N) : WP d 136 2 [l0, l1, l2] (vI z1 :: .ref 82 :: st) (N, L, M) Q = WP d 136 5 [l0, l1, l2] (st) (N, L, up M 82 11 (vI z1)) Q := w_putf (ci := 9) (by rfl) (by rfl) (by decide) hN (by rfl) (q_fit_int rfl _)
theorem s136_5 {l1 l2 : Value}  : WP d 136 5 [.ref 82, l1, l2] (st) X Q = WP d 136 6 [.ref 82, l1, l2] (.ref 82 :: st) X Q := w_aload_n (by rfl) rfl (by decide)
theorem s136_6 {l0 l1 l2 : Value}  : WP d 136 6 [l0, l1, l2] (st) X Q = WP d 136 8 [l0, l1, l2] (vI (100) :: st) X Q := w_bipush (by rfl) (by decide)
theorem s136_8 {l0 l2 : Value} {z1 : Int} : WP d 136 8 [l0, vI z1, l2] (st) X Q = WP d 136 9 [l0, vI z1, l2] (vI z1 :: st) X Q := w_iload_n (by rfl) rfl
theorem s136_9 {l0 l1 l2 : Value} {z1 : Int} {z2 : Int} : WP d 136 9 [l0, l1, l2] (vI z2 :: vI z1 :: st) X Q = WP d 136 10 [l0, l1, l2] (vI (z1 * z2) :: st) X Q := w_imul (by rfl)
theorem s136_10 {l0 l1 l2 : Value} {z1 : Int} (hN : 82 < N) : WP d 136 10 [l0, l1, l2] (vI z1 :: .ref 82 :: st) (N, L, M) Q = WP d 136 13 [l0, l1, l2] (st) (N, L, up M 82 21 (vI z1)) Q := w_putf (ci := 9) (by rfl) (by rfl) (by decide) hN (by rfl) (q_fit_int rfl _)
theorem s136_13 {l0 l1 l2 : Value}  : WP d 136 13 [l0, l1, l2] (st) X Q = WP d 136 14 [l0, l1, l2] (vI (0) :: st) X Q := w_iconst (by rfl)
theorem s136_14 {l0 l2 : Value} {z1 : Int} {z2 : Int} : WP d 136 14 [l0, vI z1, l2] (vI z2 :: st) X Q = WP d 136 15 [l0, vI z1, vI z2] (st) X Q := w_istore_n (by rfl) (q_okb_s rfl rfl) (Nat.le_of_ble_eq_true rfl) rfl
theorem s136_15 {l1 l2 : Value}  : WP d 136 15 [.ref 82, l1, l2] (st) X Q = WP d 136 16 [.ref 82, l1, l2] (.ref 82 :: st) X Q := w_aload_n (by rfl) rfl (by decide)
theorem s136_16 {l0 l1 l2 : Value}  : WP d 136 16 [l0, l1, l2] (st) X Q = WP d 136 18 [l0, l1, l2] (vI (10) :: st) X Q := w_bipush (by rfl) (by decide)
theorem s136_18 {l0 l2 : Value} {z1 : Int} : WP d 136 18 [l0, vI z1, l2] (st) X Q = WP d 136 19 [l0, vI z1, l2] (vI z1 :: st) X Q := w_iload_n (by rfl) rfl
theorem s136_19 {l0 l1 l2 : Value} {z1 : Int} {z2 : Int} : WP d 136 19 [l0, l1, l2] (vI z2 :: vI z1 :: st) X Q = WP d 136 20 [l0, l1, l2] (vI (z1 * z2) :: st) X Q := w_imul (by rfl)
theorem s136_20 {l0 l1 : Value} {z1 : Int} : WP d 136 20 [l0, l1, vI z1] (st) X Q = WP d 136 21 [l0, l1, vI z1] (vI z1 :: st) X Q := w_iload_n (by rfl) rfl
theorem s136_21 {l0 l1 l2 : Value} {z1 : Int} {z2 : Int} : WP d 136 21 [l0, l1, l2] (vI z2 :: vI z1 :: st) X Q = WP d 136 22 [l0, l1, l2] (vI (z1 + z2) :: st) X Q := w_iadd (by rfl)
theorem c136_22 {l0 l1 l2 : Value} {z1 : Int} {r : Int} {X' : q_H} (hN : 82 < N) (hS : Sp d 135 [.ref 82, vI z1] (N, L, M) (some (vI r)) X') : WP d 136 22 [l0, l1, l2] (vI z1 :: .ref 82 :: []) (N, L, M) Q = WP d 136 25 [l0, l1, l2] (vI r :: []) X' Q := w_callv (vs := [vI z1]) (by rfl) (by rfl) rfl (Nat.le_of_ble_eq_true rfl) (kd := 9) (by rfl) (by decide) (Or.inl hN) (by rfl) hS
theorem s136_25 {l0 l1 l2 : Value} {z1 : Int} (h1 : -2147483648 ≤ z1 ∧ z1 ≤ 2147483647) : WP d 136 25 [l0, l1, l2] (vI z1 :: st) X Q = if z1 = 0 then WP d 136 28 [l0, l1, l2] (st) X Q else WP d 136 30 [l0, l1, l2] (st) X Q := w_ifne (by rfl) (by decide) h1
theorem s136_25b {l0 l1 l2 : Value} {P : Prop} [Decidable P] : WP d 136 25 [l0, l1, l2] (vI (bI P) :: st) X Q = if P then WP d 136 30 [l0, l1, l2] (st) X Q else WP d 136 28 [l0, l1, l2] (st) X Q := w_ifneb (by rfl) (by decide)
theorem s136_28 {l0 l1 l2 : Value}  : WP d 136 28 [l0, l1, l2] (st) X Q = WP d 136 29 [l0, l1, l2] (vI (0) :: st) X Q := w_iconst (by rfl)
theorem s136_29 {l0 l1 l2 : Value} {z1 : Int} (hz : z1 = 0 ∨ z1 = 1) : WP d 136 29 [l0, l1, l2] (vI z1 :: []) X Q = Q (some (vI z1)) X := w_iretz (by rfl) (by rfl) (nb_bool hz)
theorem s136_29b {l0 l1 l2 : Value} {P : Prop} [Decidable P] : WP d 136 29 [l0, l1, l2] (vI (bI P) :: []) X Q = Q (some (vI (bI P))) X := w_iretz (by rfl) (by rfl) (nb_bool (bI_01 P))
theorem s136_30 {l0 : Value} {z1 : Int} {z2 : Int} : WP d 136 30 [l0, vI z2, vI z1] (st) X Q = WP d 136 33 [l0, vI z2, vI (z1 + 1)] (st) X Q := w_iinc (by rfl) rfl (q_okb_s rfl rfl) (Nat.le_of_ble_eq_true rfl) rfl
theorem s136_33 {l1 l2 : Value}  : WP d 136 33 [.ref 82, l1, l2] (st) X Q = WP d 136 34 [.ref 82, l1, l2] (.ref 82 :: st) X Q := w_aload_n (by rfl) rfl (by decide)
theorem s136_34 {l0 l1 l2 : Value} (hN : 82 < N) : WP d 136 34 [l0, l1, l2] (.ref 82 :: st) (N, L, M) Q = WP d 136 37 [l0, l1, l2] (M 82 14 :: st) (N, L, M) Q := w_getf (by rfl) (by rfl) hN (by decide) (by rfl)
theorem s136_37 {l0 l2 : Value} {z1 : Int} : WP d 136 37 [l0, vI z1, l2] (st) X Q = WP d 136 38 [l0, vI z1, l2] (vI z1 :: st) X Q := w_iload_n (by rfl) rfl
theorem s136_38 {l0 l1 : Value} {z1 : Int} : WP d 136 38 [l0, l1, vI z1] (st) X Q = WP d 136 39 [l0, l1, vI z1] (vI z1 :: st) X Q := w_iload_n (by rfl) rfl
theorem s136_39 {l0 l1 l2 : Value} {j1 : Int} {z2 : Int} (hj : 0 ≤ j1 ∧ j1 < 6) (hN : 89 < N) : WP d 136 39 [l0, l1, l2] (vI z2 :: vI j1 :: .ref 89 :: st) (N, L, M) Q = WP d 136 40 [l0, l1, l2] (st) (N, L, up M 89 j1.toNat (vI z2)) Q := w_iast (by rfl) (m := 6) (by rfl) hN hj (by decide)
theorem s136_40 {l1 l2 : Value}  : WP d 136 40 [.ref 82, l1, l2] (st) X Q = WP d 136 41 [.ref 82, l1, l2] (.ref 82 :: st) X Q := w_aload_n (by rfl) rfl (by decide)
theorem s136_41 {l0 l1 l2 : Value} (hN : 82 < N) : WP d 136 41 [l0, l1, l2] (.ref 82 :: st) (N, L, M) Q = WP d 136 44 [l0, l1, l2] (M 82 11 :: st) (N, L, M) Q := w_getf (by rfl) (by rfl) hN (by decide) (by rfl)
theorem s136_44 {l1 l2 : Value}  : WP d 136 44 [.ref 82, l1, l2] (st) X Q = WP d 136 45 [.ref 82, l1, l2] (.ref 82 :: st) X Q := w_aload_n (by rfl) rfl (by decide)
theorem s136_45 {l0 l1 l2 : Value} (hN : 82 < N) : WP d 136 45 [l0, l1, l2] (.ref 82 :: st) (N, L, M) Q = WP d 136 48 [l0, l1, l2] (M 82 10 :: st) (N, L, M) Q := w_getf (by rfl) (by rfl) hN (by decide) (by rfl)
theorem s136_48 {l0 l1 l2 : Value} {z1 : Int} {z2 : Int} (h1 : -2147483648 ≤ z1 ∧ z1 ≤ 2147483647) (h2 : -2147483648 ≤ z2 ∧ z2 ≤ 2147483647) : WP d 136 48 [l0, l1, l2] (vI z2 :: vI z1 :: st) X Q = if z1 = z2 then WP d 136 51 [l0, l1, l2] (st) X Q else WP d 136 53 [l0, l1, l2] (st) X Q := w_icmpne (by rfl) (by decide) h1 h2
theorem s136_48b {l0 l1 l2 : Value} {P R : Prop} [Decidable P] [Decidable R] : WP d 136 48 [l0, l1, l2] (vI (bI R) :: vI (bI P) :: st) X Q = if (P ↔ R) then WP d 136 51 [l0, l1, l2] (st) X Q else WP d 136 53 [l0, l1, l2] (st) X Q := w_icmpneb (by rfl) (by decide)
theorem s136_51 {l0 l1 l2 : Value}  : WP d 136 51 [l0, l1, l2] (st) X Q = WP d 136 52 [l0, l1, l2] (vI (1) :: st) X Q := w_iconst (by rfl)
theorem s136_52 {l0 l1 l2 : Value} {z1 : Int} (hz : z1 = 0 ∨ z1 = 1) : WP d 136 52 [l0, l1, l2] (vI z1 :: []) X Q = Q (some (vI z1)) X := w_iretz (by rfl) (by rfl) (nb_bool hz)
theorem s136_52b {l0 l1 l2 : Value} {P : Prop} [Decidable P] : WP d 136 52 [l0, l1, l2] (vI (bI P) :: []) X Q = Q (some (vI (bI P))) X := w_iretz (by rfl) (by rfl) (nb_bool (bI_01 P))
theorem s136_53 {l0 l1 : Value} {z1 : Int} : WP d 136 53 [l0, l1, vI z1] (st) X Q = WP d 136 54 [l0, l1, vI z1] (vI z1 :: st) X Q := w_iload_n (by rfl) rfl
theorem s136_54 {l0 l1 l2 : Value}  : WP d 136 54 [l0, l1, l2] (st) X Q = WP d 136 56 [l0, l1, l2] (vI (10) :: st) X Q := w_bipush (by rfl) (by decide)
theorem s136_56 {l0 l1 l2 : Value} {z1 : Int} {z2 : Int} (h1 : -2147483648 ≤ z1 ∧ z1 ≤ 2147483647) (h2 : -2147483648 ≤ z2 ∧ z2 ≤ 2147483647) : WP d 136 56 [l0, l1, l2] (vI z2 :: vI z1 :: st) X Q = if z1 = z2 then WP d 136 68 [l0, l1, l2] (st) X Q else WP d 136 59 [l0, l1, l2] (st) X Q := w_icmpeq (by rfl) (by decide) h1 h2
theorem s136_56b {l0 l1 l2 : Value} {P R : Prop} [Decidable P] [Decidable R] : WP d 136 56 [l0, l1, l2] (vI (bI R) :: vI (bI P) :: st) X Q = if (P ↔ R) then WP d 136 68 [l0, l1, l2] (st) X Q else WP d 136 59 [l0, l1, l2] (st) X Q := w_icmpeqb (by rfl) (by decide)
theorem s136_59 {l1 l2 : Value}  : WP d 136 59 [.ref 82, l1, l2] (st) X Q = WP d 136 60 [.ref 82, l1, l2] (.ref 82 :: st) X Q := w_aload_n (by rfl) rfl (by decide)
theorem s136_60 {l0 l1 l2 : Value}  : WP d 136 60 [l0, l1, l2] (st) X Q = WP d 136 62 [l0, l1, l2] (vI (59) :: st) X Q := w_bipush (by rfl) (by decide)
theorem c136_62 {l0 l1 l2 : Value} {z1 : Int} {r : Int} {X' : q_H} (hN : 82 < N) (hS : Sp d 124 [.ref 82, vI z1] (N, L, M) (some (vI r)) X') : WP d 136 62 [l0, l1, l2] (vI z1 :: .ref 82 :: []) (N, L, M) Q = WP d 136 65 [l0, l1, l2] (vI r :: []) X' Q := w_callv (vs := [vI z1]) (by rfl) (by rfl) rfl (Nat.le_of_ble_eq_true rfl) (kd := 9) (by rfl) (by decide) (Or.inl hN) (by rfl) hS
theorem s136_65 {l0 l1 l2 : Value} {z1 : Int} (h1 : -2147483648 ≤ z1 ∧ z1 ≤ 2147483647) : WP d 136 65 [l0, l1, l2] (vI z1 :: st) X Q = if z1 = 0 then WP d 136 68 [l0, l1, l2] (st) X Q else WP d 136 15 [l0, l1, l2] (st) X Q := w_ifne (by rfl) (by decide) h1
theorem s136_65b {l0 l1 l2 : Value} {P : Prop} [Decidable P] : WP d 136 65 [l0, l1, l2] (vI (bI P) :: st) X Q = if P then WP d 136 15 [l0, l1, l2] (st) X Q else WP d 136 68 [l0, l1, l2] (st) X Q := w_ifneb (by rfl) (by decide)
theorem s136_68 {l0 l1 l2 : Value}  : WP d 136 68 [l0, l1, l2] (st) X Q = WP d 136 69 [l0, l1, l2] (vI (0) :: st) X Q := w_iconst (by rfl)
theorem s136_69 {l0 l1 l2 : Value} {z1 : Int} (hz : z1 = 0 ∨ z1 = 1) : WP d 136 69 [l0, l1, l2] (vI z1 :: []) X Q = Q (some (vI z1)) X := w_iretz (by rfl) (by rfl) (nb_bool hz)
theorem s136_69b {l0 l1 l2 : Value} {P : Prop} [Decidable P] : WP d 136 69 [l0, l1, l2] (vI (bI P) :: []) X Q = Q (some (vI (bI P))) X := w_iretz (by rfl) (by rfl) (nb_bool (bI_01 P))
/-! 137 BellsThatEatModel.upland -/
theorem e137 {d : Nat} {X : q_H}  {r : Option Value} {X' : q_H} (hd : 1 ≤ d) (h : WP (d - 1) 137 0 [.ref 82, .null] [] X (fun r1 X1 => r1 = r ∧ X1 = X')) : Sp d 137 [.ref 82] X r X' := Sp.of1 hd (vs := [.ref 82]) (ls := [.ref 82, .null]) (by rfl) (by rfl) h
theorem E137 {d : Nat} {X : q_H}  {Q : Option Value → q_H → Prop} (hd : 1 ≤ d) (h : WP (d - 1) 137 0 [.ref 82, .null] [] X Q) : ∃ r X', Sp d 137 [.ref 82] X r X' ∧ Q r X' := Sp.of2 hd (vs := [.ref 82]) (ls := [.ref 82, .null]) (by rfl) (by rfl) h
theorem s137_0 {l1 : Value}  : WP d 137 0 [.ref 82, l1] (st) X Q = WP d 137 1 [.ref 82, l1] (.ref 82 :: st) X Q := w_aload_n (by rfl) rfl (by decide)
theorem s137_1 {l0 l1 : Value} (hN : 82 < N) : WP d 137 1 [l0, l1] (.ref 82 :: st) (N, L, M) Q = WP d 137 4 [l0, l1] (M 82 8 :: st) (N, L, M) Q := w_getf (by rfl) (by rfl) hN (by decide) (by rfl)
theorem s137_4 {l0 l1 : Value}  : WP d 137 4 [l0, l1] (st) X Q = WP d 137 6 [l0, l1] (vI (6) :: st) X Q := w_bipush (by rfl) (by decide)
theorem s137_6 {l0 l1 : Value} {z1 : Int} {z2 : Int} (h1 : -2147483648 ≤ z1 ∧ z1 ≤ 2147483647) (h2 : -2147483648 ≤ z2 ∧ z2 ≤ 2147483647) : WP d 137 6 [l0, l1] (vI z2 :: vI z1 :: st) X Q = if z1 = z2 then WP d 137 9 [l0, l1] (st) X Q else WP d 137 12 [l0, l1] (st) X Q := w_icmpne (by rfl) (by decide) h1 h2
theorem s137_6b {l0 l1 : Value} {P R : Prop} [Decidable P] [Decidable R] : WP d 137 6 [l0, l1] (vI (bI R) :: vI (bI P) :: st) X Q = if (P ↔ R) then WP d 137 9 [l0, l1] (st) X Q else WP d 137 12 [l0, l1] (st) X Q := w_icmpneb (by rfl) (by decide)
theorem s137_9 {l0 l1 : Value}  : WP d 137 9 [l0, l1] (st) X Q = WP d 137 11 [l0, l1] (vI (-4) :: st) X Q := w_bipush (by rfl) (by decide)
theorem s137_11 {l0 l1 : Value} {z1 : Int} : WP d 137 11 [l0, l1] (vI z1 :: []) X Q = Q (some (vI z1)) X := w_ireti (by rfl) (by rfl)
theorem s137_12 {l1 : Value}  : WP d 137 12 [.ref 82, l1] (st) X Q = WP d 137 13 [.ref 82, l1] (.ref 82 :: st) X Q := w_aload_n (by rfl) rfl (by decide)
theorem s137_13 {l1 : Value}  : WP d 137 13 [.ref 82, l1] (st) X Q = WP d 137 14 [.ref 82, l1] (.ref 82 :: st) X Q := w_aload_n (by rfl) rfl (by decide)
theorem s137_14 {l0 l1 : Value} (hN : 82 < N) : WP d 137 14 [l0, l1] (.ref 82 :: st) (N, L, M) Q = WP d 137 17 [l0, l1] (M 82 8 :: st) (N, L, M) Q := w_getf (by rfl) (by rfl) hN (by decide) (by rfl)
theorem c137_17 {l0 l1 : Value} {z1 : Int} {r : Int} {X' : q_H} (hN : 82 < N) (hS : Sp d 136 [.ref 82, vI z1] (N, L, M) (some (vI r)) X') : WP d 137 17 [l0, l1] (vI z1 :: .ref 82 :: []) (N, L, M) Q = WP d 137 20 [l0, l1] (vI r :: []) X' Q := w_callv (vs := [vI z1]) (by rfl) (by rfl) rfl (Nat.le_of_ble_eq_true rfl) (kd := 9) (by rfl) (by decide) (Or.inl hN) (by rfl) hS
theorem s137_20 {l1 : Value} {b1 : Nat} {z2 : Int} : WP d 137 20 [.ref b1, l1] (vI z2 :: st) X Q = WP d 137 21 [.ref b1, vI z2] (st) X Q := w_istore_n (by rfl) (q_okb_s rfl rfl) (Nat.le_of_ble_eq_true rfl) rfl
theorem s137_21 {l1 : Value}  : WP d 137 21 [.ref 82, l1] (st) X Q = WP d 137 22 [.ref 82, l1] (.ref 82 :: st) X Q := w_aload_n (by rfl) rfl (by decide)
theorem s137_22 {l0 l1 : Value}  : WP d 137 22 [l0, l1] (st) X Q = WP d 137 23 [l0, l1] (vI (0) :: st) X Q := w_iconst (by rfl)
theorem s137_23 {l0 l1 : Value} {z1 : Int} (hN : 82 < N) : WP d 137 23 [l0, l1] (vI z1 :: .ref 82 :: st) (N, L, M) Q = WP d 137 26 [l0, l1] (st) (N, L, up M 82 10 (vI z1)) Q := w_putf (ci := 9) (by rfl) (by rfl) (by decide) hN (by rfl) (q_fit_int rfl _)
theorem s137_26 {l0 : Value} {z1 : Int} : WP d 137 26 [l0, vI z1] (st) X Q = WP d 137 27 [l0, vI z1] (vI z1 :: st) X Q := w_iload_n (by rfl) rfl
theorem s137_27 {l0 l1 : Value} {z1 : Int} (h1 : -2147483648 ≤ z1 ∧ z1 ≤ 2147483647) : WP d 137 27 [l0, l1] (vI z1 :: st) X Q = if z1 = 0 then WP d 137 30 [l0, l1] (st) X Q else WP d 137 38 [l0, l1] (st) X Q := w_ifne (by rfl) (by decide) h1
theorem s137_27b {l0 l1 : Value} {P : Prop} [Decidable P] : WP d 137 27 [l0, l1] (vI (bI P) :: st) X Q = if P then WP d 137 38 [l0, l1] (st) X Q else WP d 137 30 [l0, l1] (st) X Q := w_ifneb (by rfl) (by decide)
theorem s137_30 {l0 l1 : Value}  : WP d 137 30 [l0, l1] (st) X Q = WP d 137 32 [l0, l1] (vI (-10) :: st) X Q := w_bipush (by rfl) (by decide)
theorem s137_32 {l1 : Value}  : WP d 137 32 [.ref 82, l1] (st) X Q = WP d 137 33 [.ref 82, l1] (.ref 82 :: st) X Q := w_aload_n (by rfl) rfl (by decide)
theorem s137_33 {l0 l1 : Value} (hN : 82 < N) : WP d 137 33 [l0, l1] (.ref 82 :: st) (N, L, M) Q = WP d 137 36 [l0, l1] (M 82 11 :: st) (N, L, M) Q := w_getf (by rfl) (by rfl) hN (by decide) (by rfl)
theorem s137_36 {l0 l1 : Value} {z1 : Int} {z2 : Int} : WP d 137 36 [l0, l1] (vI z2 :: vI z1 :: st) X Q = WP d 137 37 [l0, l1] (vI (z1 - z2) :: st) X Q := w_isub (by rfl)
theorem s137_37 {l0 l1 : Value} {z1 : Int} : WP d 137 37 [l0, l1] (vI z1 :: []) X Q = Q (some (vI z1)) X := w_ireti (by rfl) (by rfl)
theorem s137_38 {l1 : Value}  : WP d 137 38 [.ref 82, l1] (st) X Q = WP d 137 39 [.ref 82, l1] (.ref 82 :: st) X Q := w_aload_n (by rfl) rfl (by decide)
theorem s137_39 {l1 : Value}  : WP d 137 39 [.ref 82, l1] (st) X Q = WP d 137 40 [.ref 82, l1] (.ref 82 :: st) X Q := w_aload_n (by rfl) rfl (by decide)
theorem s137_40 {l0 l1 : Value} (hN : 82 < N) : WP d 137 40 [l0, l1] (.ref 82 :: st) (N, L, M) Q = WP d 137 43 [l0, l1] (M 82 8 :: st) (N, L, M) Q := w_getf (by rfl) (by rfl) hN (by decide) (by rfl)
theorem s137_43 {l0 l1 : Value} {z1 : Int} (hN : 82 < N) : WP d 137 43 [l0, l1] (vI z1 :: .ref 82 :: st) (N, L, M) Q = WP d 137 46 [l0, l1] (st) (N, L, up M 82 9 (vI z1)) Q := w_putf (ci := 9) (by rfl) (by rfl) (by decide) hN (by rfl) (q_fit_int rfl _)
theorem s137_46 {l1 : Value}  : WP d 137 46 [.ref 82, l1] (st) X Q = WP d 137 47 [.ref 82, l1] (.ref 82 :: st) X Q := w_aload_n (by rfl) rfl (by decide)
theorem s137_47 {l0 l1 : Value} {a1 : Nat} : WP d 137 47 [l0, l1] (.ref a1 :: st) X Q = WP d 137 48 [l0, l1] (.ref a1 :: .ref a1 :: st) X Q := w_dup (by rfl) rfl
theorem s137_48 {l0 l1 : Value} (hN : 82 < N) : WP d 137 48 [l0, l1] (.ref 82 :: st) (N, L, M) Q = WP d 137 51 [l0, l1] (M 82 8 :: st) (N, L, M) Q := w_getf (by rfl) (by rfl) hN (by decide) (by rfl)
theorem s137_51 {l0 l1 : Value}  : WP d 137 51 [l0, l1] (st) X Q = WP d 137 52 [l0, l1] (vI (1) :: st) X Q := w_iconst (by rfl)
theorem s137_52 {l0 l1 : Value} {z1 : Int} {z2 : Int} : WP d 137 52 [l0, l1] (vI z2 :: vI z1 :: st) X Q = WP d 137 53 [l0, l1] (vI (z1 + z2) :: st) X Q := w_iadd (by rfl)
theorem s137_53 {l0 l1 : Value} {z1 : Int} (hN : 82 < N) : WP d 137 53 [l0, l1] (vI z1 :: .ref 82 :: st) (N, L, M) Q = WP d 137 56 [l0, l1] (st) (N, L, up M 82 8 (vI z1)) Q := w_putf (ci := 9) (by rfl) (by rfl) (by decide) hN (by rfl) (q_fit_int rfl _)
theorem s137_56 {l1 : Value}  : WP d 137 56 [.ref 82, l1] (st) X Q = WP d 137 57 [.ref 82, l1] (.ref 82 :: st) X Q := w_aload_n (by rfl) rfl (by decide)
theorem s137_57 {l0 l1 : Value} (hN : 82 < N) : WP d 137 57 [l0, l1] (.ref 82 :: st) (N, L, M) Q = WP d 137 60 [l0, l1] (M 82 9 :: st) (N, L, M) Q := w_getf (by rfl) (by rfl) hN (by decide) (by rfl)
theorem s137_60 {l0 l1 : Value} {z1 : Int} : WP d 137 60 [l0, l1] (vI z1 :: []) X Q = Q (some (vI z1)) X := w_ireti (by rfl) (by rfl)
/-! 138 BellsThatEatModel.begin -/
theorem e138 {d : Nat} {X : q_H}  {r : Option Value} {X' : q_H} (hd : 1 ≤ d) (h : WP (d - 1) 138 0 [.ref 82] [] X (fun r1 X1 => r1 = r ∧ X1 = X')) : Sp d 138 [.ref 82] X r X' := Sp.of1 hd (vs := [.ref 82]) (ls := [.ref 82]) (by rfl) (by rfl) h
theorem E138 {d : Nat} {X : q_H}  {Q : Option Value → q_H → Prop} (hd : 1 ≤ d) (h : WP (d - 1) 138 0 [.ref 82] [] X Q) : ∃ r X', Sp d 138 [.ref 82] X r X' ∧ Q r X' := Sp.of2 hd (vs := [.ref 82]) (ls := [.ref 82]) (by rfl) (by rfl) h
theorem s138_0  : WP d 138 0 [.ref 82] (st) X Q = WP d 138 1 [.ref 82] (.ref 82 :: st) X Q := w_aload_n (by rfl) rfl (by decide)
theorem s138_1 {l0 : Value} (hN : 82 < N) : WP d 138 1 [l0] (.ref 82 :: st) (N, L, M) Q = WP d 138 4 [l0] (M 82 9 :: st) (N, L, M) Q := w_getf (by rfl) (by rfl) hN (by decide) (by rfl)
theorem s138_4 {l0 : Value} {z1 : Int} (h1 : -2147483648 ≤ z1 ∧ z1 ≤ 2147483647) : WP d 138 4 [l0] (vI z1 :: st) X Q = if z1 < 0 then WP d 138 7 [l0] (st) X Q else WP d 138 11 [l0] (st) X Q := w_ifge (by rfl) (by decide) h1
theorem s138_7 {l0 : Value}  : WP d 138 7 [l0] (st) X Q = WP d 138 8 [l0] (vI (0) :: st) X Q := w_iconst (by rfl)
theorem s138_8 {l0 : Value}  : WP d 138 8 [l0] (st) X Q = WP d 138 18 [l0] (st) X Q := w_goto (by rfl) (by decide)
theorem s138_11 {l0 : Value}  : WP d 138 11 [l0] (st) X Q = WP d 138 13 [l0] (vI (10) :: st) X Q := w_bipush (by rfl) (by decide)
theorem s138_13  : WP d 138 13 [.ref 82] (st) X Q = WP d 138 14 [.ref 82] (.ref 82 :: st) X Q := w_aload_n (by rfl) rfl (by decide)
theorem s138_14 {l0 : Value} (hN : 82 < N) : WP d 138 14 [l0] (.ref 82 :: st) (N, L, M) Q = WP d 138 17 [l0] (M 82 9 :: st) (N, L, M) Q := w_getf (by rfl) (by rfl) hN (by decide) (by rfl)
theorem s138_17 {l0 : Value} {z1 : Int} {z2 : Int} : WP d 138 17 [l0] (vI z2 :: vI z1 :: st) X Q = WP d 138 18 [l0] (vI (z1 * z2) :: st) X Q := w_imul (by rfl)
theorem s138_18 {l0 : Value} {z1 : Int} : WP d 138 18 [l0] (vI z1 :: []) X Q = Q (some (vI z1)) X := w_ireti (by rfl) (by rfl)
/-! 139 BellsThatEatModel.behind -/
theorem e139 {d : Nat} {X : q_H}  {r : Option Value} {X' : q_H} (hd : 1 ≤ d) (h : WP (d - 1) 139 0 [.ref 82] [] X (fun r1 X1 => r1 = r ∧ X1 = X')) : Sp d 139 [.ref 82] X r X' := Sp.of1 hd (vs := [.ref 82]) (ls := [.ref 82]) (by rfl) (by rfl) h
theorem E139 {d : Nat} {X : q_H}  {Q : Option Value → q_H → Prop} (hd : 1 ≤ d) (h : WP (d - 1) 139 0 [.ref 82] [] X Q) : ∃ r X', Sp d 139 [.ref 82] X r X' ∧ Q r X' := Sp.of2 hd (vs := [.ref 82]) (ls := [.ref 82]) (by rfl) (by rfl) h
theorem s139_0  : WP d 139 0 [.ref 82] (st) X Q = WP d 139 1 [.ref 82] (.ref 82 :: st) X Q := w_aload_n (by rfl) rfl (by decide)
theorem s139_1 {l0 : Value} (hN : 82 < N) : WP d 139 1 [l0] (.ref 82 :: st) (N, L, M) Q = WP d 139 4 [l0] (M 82 9 :: st) (N, L, M) Q := w_getf (by rfl) (by rfl) hN (by decide) (by rfl)
theorem s139_4 {l0 : Value} {z1 : Int} (h1 : -2147483648 ≤ z1 ∧ z1 ≤ 2147483647) : WP d 139 4 [l0] (vI z1 :: st) X Q = if z1 < 0 then WP d 139 7 [l0] (st) X Q else WP d 139 11 [l0] (st) X Q := w_ifge (by rfl) (by decide) h1
theorem s139_7 {l0 : Value}  : WP d 139 7 [l0] (st) X Q = WP d 139 8 [l0] (vI (0) :: st) X Q := w_iconst (by rfl)
theorem s139_8 {l0 : Value}  : WP d 139 8 [l0] (st) X Q = WP d 139 28 [l0] (st) X Q := w_goto (by rfl) (by decide)
theorem s139_11 {l0 : Value}  : WP d 139 11 [l0] (st) X Q = WP d 139 13 [l0] (vI (10) :: st) X Q := w_bipush (by rfl) (by decide)
theorem s139_13  : WP d 139 13 [.ref 82] (st) X Q = WP d 139 14 [.ref 82] (.ref 82 :: st) X Q := w_aload_n (by rfl) rfl (by decide)
theorem s139_14 {l0 : Value} (hN : 82 < N) : WP d 139 14 [l0] (.ref 82 :: st) (N, L, M) Q = WP d 139 17 [l0] (M 82 9 :: st) (N, L, M) Q := w_getf (by rfl) (by rfl) hN (by decide) (by rfl)
theorem s139_17 {l0 : Value} {z1 : Int} {z2 : Int} : WP d 139 17 [l0] (vI z2 :: vI z1 :: st) X Q = WP d 139 18 [l0] (vI (z1 * z2) :: st) X Q := w_imul (by rfl)
theorem s139_18  : WP d 139 18 [.ref 82] (st) X Q = WP d 139 19 [.ref 82] (.ref 82 :: st) X Q := w_aload_n (by rfl) rfl (by decide)
theorem s139_19 {l0 : Value} (hN : 82 < N) : WP d 139 19 [l0] (.ref 82 :: st) (N, L, M) Q = WP d 139 22 [l0] (M 82 14 :: st) (N, L, M) Q := w_getf (by rfl) (by rfl) hN (by decide) (by rfl)
theorem s139_22  : WP d 139 22 [.ref 82] (st) X Q = WP d 139 23 [.ref 82] (.ref 82 :: st) X Q := w_aload_n (by rfl) rfl (by decide)
theorem s139_23 {l0 : Value} (hN : 82 < N) : WP d 139 23 [l0] (.ref 82 :: st) (N, L, M) Q = WP d 139 26 [l0] (M 82 9 :: st) (N, L, M) Q := w_getf (by rfl) (by rfl) hN (by decide) (by rfl)
theorem s139_26 {l0 : Value} {j1 : Int} (hj : 0 ≤ j1 ∧ j1 < 6) (hN : 89 < N) : WP d 139 26 [l0] (vI j1 :: .ref 89 :: st) (N, L, M) Q = WP d 139 27 [l0] (M 89 j1.toNat :: st) (N, L, M) Q := w_iald (by rfl) (m := 6) (by rfl) hN (by decide) hj (by decide)
theorem s139_27 {l0 : Value} {z1 : Int} {z2 : Int} : WP d 139 27 [l0] (vI z2 :: vI z1 :: st) X Q = WP d 139 28 [l0] (vI (z1 + z2) :: st) X Q := w_iadd (by rfl)
theorem s139_28 {l0 : Value} {z1 : Int} : WP d 139 28 [l0] (vI z1 :: []) X Q = Q (some (vI z1)) X := w_ireti (by rfl) (by rfl)
/-! 140 BellsThatEatModel.lastOf -/
theorem e140 {d : Nat} {X : q_H} {z1 : Int} {z2 : Int} {r : Option Value} {X' : q_H} (hd : 1 ≤ d) (h : WP (d - 1) 140 0 [.ref 82, vI z1, vI z2, .null, .null] [] X (fun r1 X1 => r1 = r ∧ X1 = X')) : Sp d 140 [.ref 82, vI z1, vI z2] X r X' := Sp.of1 hd (vs := [.ref 82, vI z1, vI z2]) (ls := [.ref 82, vI z1, vI z2, .null, .null]) (by rfl) (by rfl) h
theorem E140 {d : Nat} {X : q_H} {z1 : Int} {z2 : Int} {Q : Option Value → q_H → Prop} (hd : 1 ≤ d) (h : WP (d - 1) 140 0 [.ref 82, vI z1, vI z2, .null, .null] [] X Q) : ∃ r X', Sp d 140 [.ref 82, vI z1, vI z2] X r X' ∧ Q r X' := Sp.of2 hd (vs := [.ref 82, vI z1, vI z2]) (ls := [.ref 82, vI z1, vI z2, .null, .null]) (by rfl) (by rfl) h
theorem s140_0 {l0 l1 l3 l4 : Value} {z1 : Int} : WP d 140 0 [l0, l1, vI z1, l3, l4] (st) X Q = WP d 140 1 [l0, l1, vI z1, l3, l4] (vI z1 :: st) X Q := w_iload_n (by rfl) rfl
theorem s140_1 {l0 l1 l3 l4 : Value} {z1 : Int} {z2 : Int} : WP d 140 1 [l0, l1, vI z1, l3, l4] (vI z2 :: st) X Q = WP d 140 2 [l0, l1, vI z1, vI z2, l4] (st) X Q := w_istore_n (by rfl) (q_okb_s rfl rfl) (Nat.le_of_ble_eq_true rfl) rfl
theorem s140_2 {l1 l2 l3 l4 : Value}  : WP d 140 2 [.ref 82, l1, l2, l3, l4] (st) X Q = WP d 140 3 [.ref 82, l1, l2, l3, l4] (.ref 82 :: st) X Q := w_aload_n (by rfl) rfl (by decide)
theorem c140_3 {l0 l1 l2 l3 l4 : Value} {r : Int} {X' : q_H} (hN : 82 < N) (hS : Sp d 138 [.ref 82] (N, L, M) (some (vI r)) X') : WP d 140 3 [l0, l1, l2, l3, l4] (.ref 82 :: []) (N, L, M) Q = WP d 140 6 [l0, l1, l2, l3, l4] (vI r :: []) X' Q := w_callv (vs := []) (by rfl) (by rfl) rfl (Nat.le_of_ble_eq_true rfl) (kd := 9) (by rfl) (by decide) (Or.inl hN) (by rfl) hS
theorem s140_6 {l0 l1 l2 l4 : Value} {z1 : Int} {z2 : Int} : WP d 140 6 [l0, l1, l2, vI z1, l4] (vI z2 :: st) X Q = WP d 140 8 [l0, l1, l2, vI z1, vI z2] (st) X Q := w_istore (by rfl) (q_okb_s rfl rfl) (Nat.le_of_ble_eq_true rfl) rfl
theorem s140_8 {l0 l1 l2 l3 : Value} {z1 : Int} : WP d 140 8 [l0, l1, l2, l3, vI z1] (st) X Q = WP d 140 10 [l0, l1, l2, l3, vI z1] (vI z1 :: st) X Q := w_iload (by rfl) rfl
theorem s140_10 {l1 l2 l3 l4 : Value}  : WP d 140 10 [.ref 82, l1, l2, l3, l4] (st) X Q = WP d 140 11 [.ref 82, l1, l2, l3, l4] (.ref 82 :: st) X Q := w_aload_n (by rfl) rfl (by decide)
theorem c140_11 {l0 l1 l2 l3 l4 : Value} {x0 : Value} {r : Int} {X' : q_H} (hN : 82 < N) (hS : Sp d 139 [.ref 82] (N, L, M) (some (vI r)) X') : WP d 140 11 [l0, l1, l2, l3, l4] (.ref 82 :: x0 :: []) (N, L, M) Q = WP d 140 14 [l0, l1, l2, l3, l4] (vI r :: x0 :: []) X' Q := w_callv (vs := []) (by rfl) (by rfl) rfl (Nat.le_of_ble_eq_true rfl) (kd := 9) (by rfl) (by decide) (Or.inl hN) (by rfl) hS
theorem s140_14 {l0 l1 l2 l3 l4 : Value} {z1 : Int} {z2 : Int} (h1 : -2147483648 ≤ z1 ∧ z1 ≤ 2147483647) (h2 : -2147483648 ≤ z2 ∧ z2 ≤ 2147483647) : WP d 140 14 [l0, l1, l2, l3, l4] (vI z2 :: vI z1 :: st) X Q = if z1 < z2 then WP d 140 17 [l0, l1, l2, l3, l4] (st) X Q else WP d 140 46 [l0, l1, l2, l3, l4] (st) X Q := w_icmpge (by rfl) (by decide) h1 h2
theorem s140_17 {l1 l2 l3 l4 : Value}  : WP d 140 17 [.ref 82, l1, l2, l3, l4] (st) X Q = WP d 140 18 [.ref 82, l1, l2, l3, l4] (.ref 82 :: st) X Q := w_aload_n (by rfl) rfl (by decide)
theorem s140_18 {l0 l1 l2 l3 l4 : Value} (hN : 82 < N) : WP d 140 18 [l0, l1, l2, l3, l4] (.ref 82 :: st) (N, L, M) Q = WP d 140 21 [l0, l1, l2, l3, l4] (M 82 15 :: st) (N, L, M) Q := w_getf (by rfl) (by rfl) hN (by decide) (by rfl)
theorem s140_21 {l0 l1 l2 l3 : Value} {z1 : Int} : WP d 140 21 [l0, l1, l2, l3, vI z1] (st) X Q = WP d 140 23 [l0, l1, l2, l3, vI z1] (vI z1 :: st) X Q := w_iload (by rfl) rfl
theorem s140_23 {l0 l1 l2 l3 l4 : Value} {j1 : Int} (hj : 0 ≤ j1 ∧ j1 < 60) (hN : 90 < N) : WP d 140 23 [l0, l1, l2, l3, l4] (vI j1 :: .ref 90 :: st) (N, L, M) Q = WP d 140 24 [l0, l1, l2, l3, l4] (M 90 j1.toNat :: st) (N, L, M) Q := w_iald (by rfl) (m := 60) (by rfl) hN (by decide) hj (by decide)
theorem s140_24 {l0 l2 l3 l4 : Value} {z1 : Int} : WP d 140 24 [l0, vI z1, l2, l3, l4] (st) X Q = WP d 140 25 [l0, vI z1, l2, l3, l4] (vI z1 :: st) X Q := w_iload_n (by rfl) rfl
theorem s140_25 {l0 l1 l2 l3 l4 : Value} {z1 : Int} {z2 : Int} (h1 : -2147483648 ≤ z1 ∧ z1 ≤ 2147483647) (h2 : -2147483648 ≤ z2 ∧ z2 ≤ 2147483647) : WP d 140 25 [l0, l1, l2, l3, l4] (vI z2 :: vI z1 :: st) X Q = if z1 = z2 then WP d 140 28 [l0, l1, l2, l3, l4] (st) X Q else WP d 140 38 [l0, l1, l2, l3, l4] (st) X Q := w_icmpne (by rfl) (by decide) h1 h2
theorem s140_25b {l0 l1 l2 l3 l4 : Value} {P R : Prop} [Decidable P] [Decidable R] : WP d 140 25 [l0, l1, l2, l3, l4] (vI (bI R) :: vI (bI P) :: st) X Q = if (P ↔ R) then WP d 140 28 [l0, l1, l2, l3, l4] (st) X Q else WP d 140 38 [l0, l1, l2, l3, l4] (st) X Q := w_icmpneb (by rfl) (by decide)
theorem s140_28 {l1 l2 l3 l4 : Value}  : WP d 140 28 [.ref 82, l1, l2, l3, l4] (st) X Q = WP d 140 29 [.ref 82, l1, l2, l3, l4] (.ref 82 :: st) X Q := w_aload_n (by rfl) rfl (by decide)
theorem s140_29 {l0 l1 l2 l3 l4 : Value} (hN : 82 < N) : WP d 140 29 [l0, l1, l2, l3, l4] (.ref 82 :: st) (N, L, M) Q = WP d 140 32 [l0, l1, l2, l3, l4] (M 82 16 :: st) (N, L, M) Q := w_getf (by rfl) (by rfl) hN (by decide) (by rfl)
theorem s140_32 {l0 l1 l2 l3 : Value} {z1 : Int} : WP d 140 32 [l0, l1, l2, l3, vI z1] (st) X Q = WP d 140 34 [l0, l1, l2, l3, vI z1] (vI z1 :: st) X Q := w_iload (by rfl) rfl
theorem s140_34 {l0 l1 l2 l3 l4 : Value} {j1 : Int} (hj : 0 ≤ j1 ∧ j1 < 60) (hN : 91 < N) : WP d 140 34 [l0, l1, l2, l3, l4] (vI j1 :: .ref 91 :: st) (N, L, M) Q = WP d 140 35 [l0, l1, l2, l3, l4] (M 91 j1.toNat :: st) (N, L, M) Q := w_iald (by rfl) (m := 60) (by rfl) hN (by decide) hj (by decide)
theorem s140_35 {l0 l1 l2 l3 l4 : Value}  : WP d 140 35 [l0, l1, l2, l3, l4] (st) X Q = WP d 140 39 [l0, l1, l2, l3, l4] (st) X Q := w_goto (by rfl) (by decide)
theorem s140_38 {l0 l1 l2 l4 : Value} {z1 : Int} : WP d 140 38 [l0, l1, l2, vI z1, l4] (st) X Q = WP d 140 39 [l0, l1, l2, vI z1, l4] (vI z1 :: st) X Q := w_iload_n (by rfl) rfl
theorem s140_39 {l0 l1 l3 l4 : Value} {z1 : Int} {z2 : Int} : WP d 140 39 [l0, l1, vI z1, l3, l4] (vI z2 :: st) X Q = WP d 140 40 [l0, l1, vI z1, vI z2, l4] (st) X Q := w_istore_n (by rfl) (q_okb_s rfl rfl) (Nat.le_of_ble_eq_true rfl) rfl
theorem s140_40 {l0 l1 l2 : Value} {z1 : Int} {z2 : Int} : WP d 140 40 [l0, l1, l2, vI z2, vI z1] (st) X Q = WP d 140 43 [l0, l1, l2, vI z2, vI (z1 + 1)] (st) X Q := w_iinc (by rfl) rfl (q_okb_s rfl rfl) (Nat.le_of_ble_eq_true rfl) rfl
theorem s140_43 {l0 l1 l2 l3 l4 : Value}  : WP d 140 43 [l0, l1, l2, l3, l4] (st) X Q = WP d 140 8 [l0, l1, l2, l3, l4] (st) X Q := w_goto (by rfl) (by decide)
theorem s140_46 {l0 l1 l2 l4 : Value} {z1 : Int} : WP d 140 46 [l0, l1, l2, vI z1, l4] (st) X Q = WP d 140 47 [l0, l1, l2, vI z1, l4] (vI z1 :: st) X Q := w_iload_n (by rfl) rfl
theorem s140_47 {l0 l1 l2 l3 l4 : Value} {z1 : Int} : WP d 140 47 [l0, l1, l2, l3, l4] (vI z1 :: []) X Q = Q (some (vI z1)) X := w_ireti (by rfl) (by rfl)
/-! 141 BellsThatEatModel.factOf -/
theorem e141 {d : Nat} {X : q_H} {z1 : Int} {z2 : Int} {z3 : Int} {r : Option Value} {X' : q_H} (hd : 1 ≤ d) (h : WP (d - 1) 141 0 [.ref 82, vI z1, vI z2, vI z3] [] X (fun r1 X1 => r1 = r ∧ X1 = X')) : Sp d 141 [.ref 82, vI z1, vI z2, vI z3] X r X' := Sp.of1 hd (vs := [.ref 82, vI z1, vI z2, vI z3]) (ls := [.ref 82, vI z1, vI z2, vI z3]) (by rfl) (by rfl) h
theorem E141 {d : Nat} {X : q_H} {z1 : Int} {z2 : Int} {z3 : Int} {Q : Option Value → q_H → Prop} (hd : 1 ≤ d) (h : WP (d - 1) 141 0 [.ref 82, vI z1, vI z2, vI z3] [] X Q) : ∃ r X', Sp d 141 [.ref 82, vI z1, vI z2, vI z3] X r X' ∧ Q r X' := Sp.of2 hd (vs := [.ref 82, vI z1, vI z2, vI z3]) (ls := [.ref 82, vI z1, vI z2, vI z3]) (by rfl) (by rfl) h
theorem s141_0 {l0 l2 l3 : Value} {z1 : Int} : WP d 141 0 [l0, vI z1, l2, l3] (st) X Q = WP d 141 1 [l0, vI z1, l2, l3] (vI z1 :: st) X Q := w_iload_n (by rfl) rfl
theorem s141_1 {l0 l1 l2 l3 : Value} {z1 : Int} (h1 : -2147483648 ≤ z1 ∧ z1 ≤ 2147483647) : WP d 141 1 [l0, l1, l2, l3] (vI z1 :: st) X Q = if z1 = 0 then WP d 141 36 [l0, l1, l2, l3] (st) X Q else if z1 = 1 then WP d 141 38 [l0, l1, l2, l3] (st) X Q else if z1 = 2 then WP d 141 40 [l0, l1, l2, l3] (st) X Q else if z1 = 3 then WP d 141 47 [l0, l1, l2, l3] (st) X Q else if z1 = 4 then WP d 141 54 [l0, l1, l2, l3] (st) X Q else WP d 141 64 [l0, l1, l2, l3] (st) X Q := by
  by_cases e0 : z1 = 0
  · subst e0; rw [if_pos rfl]; exact w_tsw (by rfl) (by decide) (by decide) rfl (by decide)
  rw [if_neg e0]
  by_cases e1 : z1 = 1
  · subst e1; rw [if_pos rfl]; exact w_tsw (by rfl) (by decide) (by decide) rfl (by decide)
  rw [if_neg e1]
  by_cases e2 : z1 = 2
  · subst e2; rw [if_pos rfl]; exact w_tsw (by rfl) (by decide) (by decide) rfl (by decide)
  rw [if_neg e2]
  by_cases e3 : z1 = 3
  · subst e3; rw [if_pos rfl]; exact w_tsw (by rfl) (by decide) (by decide) rfl (by decide)
  rw [if_neg e3]
  by_cases e4 : z1 = 4
  · subst e4; rw [if_pos rfl]; exact w_tsw (by rfl) (by decide) (by decide) rfl (by decide)
  rw [if_neg e4]
  exact w_tswd (by rfl) h1 (by omega) (by decide)
theorem s141_36 {l0 l1 l3 : Value} {z1 : Int} : WP d 141 36 [l0, l1, vI z1, l3] (st) X Q = WP d 141 37 [l0, l1, vI z1, l3] (vI z1 :: st) X Q := w_iload_n (by rfl) rfl
theorem s141_37 {l0 l1 l2 l3 : Value} {z1 : Int} : WP d 141 37 [l0, l1, l2, l3] (vI z1 :: []) X Q = Q (some (vI z1)) X := w_ireti (by rfl) (by rfl)
theorem s141_38 {l0 l1 l2 : Value} {z1 : Int} : WP d 141 38 [l0, l1, l2, vI z1] (st) X Q = WP d 141 39 [l0, l1, l2, vI z1] (vI z1 :: st) X Q := w_iload_n (by rfl) rfl
theorem s141_39 {l0 l1 l2 l3 : Value} {z1 : Int} : WP d 141 39 [l0, l1, l2, l3] (vI z1 :: []) X Q = Q (some (vI z1)) X := w_ireti (by rfl) (by rfl)
theorem s141_40 {l1 l2 l3 : Value}  : WP d 141 40 [.ref 82, l1, l2, l3] (st) X Q = WP d 141 41 [.ref 82, l1, l2, l3] (.ref 82 :: st) X Q := w_aload_n (by rfl) rfl (by decide)
theorem s141_41 {l0 l1 l2 l3 : Value} (hN : 82 < N) : WP d 141 41 [l0, l1, l2, l3] (.ref 82 :: st) (N, L, M) Q = WP d 141 44 [l0, l1, l2, l3] (M 82 3 :: st) (N, L, M) Q := w_getf (by rfl) (by rfl) hN (by decide) (by rfl)
theorem s141_44 {l0 l1 l3 : Value} {z1 : Int} : WP d 141 44 [l0, l1, vI z1, l3] (st) X Q = WP d 141 45 [l0, l1, vI z1, l3] (vI z1 :: st) X Q := w_iload_n (by rfl) rfl
theorem s141_45 {l0 l1 l2 l3 : Value} {j1 : Int} (hj : 0 ≤ j1 ∧ j1 < 6) (hN : 83 < N) : WP d 141 45 [l0, l1, l2, l3] (vI j1 :: .ref 83 :: st) (N, L, M) Q = WP d 141 46 [l0, l1, l2, l3] (M 83 j1.toNat :: st) (N, L, M) Q := w_iald (by rfl) (m := 6) (by rfl) hN (by decide) hj (by decide)
theorem s141_46 {l0 l1 l2 l3 : Value} {z1 : Int} : WP d 141 46 [l0, l1, l2, l3] (vI z1 :: []) X Q = Q (some (vI z1)) X := w_ireti (by rfl) (by rfl)
theorem s141_47 {l1 l2 l3 : Value}  : WP d 141 47 [.ref 82, l1, l2, l3] (st) X Q = WP d 141 48 [.ref 82, l1, l2, l3] (.ref 82 :: st) X Q := w_aload_n (by rfl) rfl (by decide)
theorem s141_48 {l0 l1 l2 l3 : Value} (hN : 82 < N) : WP d 141 48 [l0, l1, l2, l3] (.ref 82 :: st) (N, L, M) Q = WP d 141 51 [l0, l1, l2, l3] (M 82 4 :: st) (N, L, M) Q := w_getf (by rfl) (by rfl) hN (by decide) (by rfl)
theorem s141_51 {l0 l1 l3 : Value} {z1 : Int} : WP d 141 51 [l0, l1, vI z1, l3] (st) X Q = WP d 141 52 [l0, l1, vI z1, l3] (vI z1 :: st) X Q := w_iload_n (by rfl) rfl
theorem s141_52 {l0 l1 l2 l3 : Value} {j1 : Int} (hj : 0 ≤ j1 ∧ j1 < 6) (hN : 84 < N) : WP d 141 52 [l0, l1, l2, l3] (vI j1 :: .ref 84 :: st) (N, L, M) Q = WP d 141 53 [l0, l1, l2, l3] (M 84 j1.toNat :: st) (N, L, M) Q := w_iald (by rfl) (m := 6) (by rfl) hN (by decide) hj (by decide)
theorem s141_53 {l0 l1 l2 l3 : Value} {z1 : Int} : WP d 141 53 [l0, l1, l2, l3] (vI z1 :: []) X Q = Q (some (vI z1)) X := w_ireti (by rfl) (by rfl)
theorem s141_54 {l1 l2 l3 : Value}  : WP d 141 54 [.ref 82, l1, l2, l3] (st) X Q = WP d 141 55 [.ref 82, l1, l2, l3] (.ref 82 :: st) X Q := w_aload_n (by rfl) rfl (by decide)
theorem s141_55 {l0 l1 l2 l3 : Value} (hN : 82 < N) : WP d 141 55 [l0, l1, l2, l3] (.ref 82 :: st) (N, L, M) Q = WP d 141 58 [l0, l1, l2, l3] (M 82 5 :: st) (N, L, M) Q := w_getf (by rfl) (by rfl) hN (by decide) (by rfl)
theorem s141_58 {l0 l1 l3 : Value} {z1 : Int} : WP d 141 58 [l0, l1, vI z1, l3] (st) X Q = WP d 141 59 [l0, l1, vI z1, l3] (vI z1 :: st) X Q := w_iload_n (by rfl) rfl
theorem s141_59 {l0 l1 l2 l3 : Value} {j1 : Int} (hj : 0 ≤ j1 ∧ j1 < 6) (hN : 85 < N) : WP d 141 59 [l0, l1, l2, l3] (vI j1 :: .ref 85 :: st) (N, L, M) Q = WP d 141 60 [l0, l1, l2, l3] (M 85 j1.toNat :: st) (N, L, M) Q := w_iald (by rfl) (m := 6) (by rfl) hN (by decide) hj (by decide)
theorem s141_60 {l0 l1 l2 l3 : Value}  : WP d 141 60 [l0, l1, l2, l3] (st) X Q = WP d 141 62 [l0, l1, l2, l3] (vI (10) :: st) X Q := w_bipush (by rfl) (by decide)
theorem s141_62 {l0 l1 l2 l3 : Value} {z1 : Int} {z2 : Int} (h1 : 0 ≤ z1 ∧ z1 ≤ 2147483647) (h2 : 0 < z2 ∧ z2 ≤ 2147483647) : WP d 141 62 [l0, l1, l2, l3] (vI z2 :: vI z1 :: st) X Q = WP d 141 63 [l0, l1, l2, l3] (vI (z1 / z2) :: st) X Q := w_idiv (by rfl) h1 h2
theorem s141_63 {l0 l1 l2 l3 : Value} {z1 : Int} : WP d 141 63 [l0, l1, l2, l3] (vI z1 :: []) X Q = Q (some (vI z1)) X := w_ireti (by rfl) (by rfl)
theorem s141_64 {l1 l2 l3 : Value}  : WP d 141 64 [.ref 82, l1, l2, l3] (st) X Q = WP d 141 65 [.ref 82, l1, l2, l3] (.ref 82 :: st) X Q := w_aload_n (by rfl) rfl (by decide)
theorem s141_65 {l0 l1 l2 l3 : Value} (hN : 82 < N) : WP d 141 65 [l0, l1, l2, l3] (.ref 82 :: st) (N, L, M) Q = WP d 141 68 [l0, l1, l2, l3] (M 82 1 :: st) (N, L, M) Q := w_getf (by rfl) (by rfl) hN (by decide) (by rfl)
theorem s141_68 {l0 l1 l2 l3 : Value}  : WP d 141 68 [l0, l1, l2, l3] (st) X Q = WP d 141 70 [l0, l1, l2, l3] (vI (10) :: st) X Q := w_bipush (by rfl) (by decide)
theorem s141_70 {l0 l1 l2 l3 : Value} {z1 : Int} {z2 : Int} (h1 : 0 ≤ z1 ∧ z1 ≤ 2147483647) (h2 : 0 < z2 ∧ z2 ≤ 2147483647) : WP d 141 70 [l0, l1, l2, l3] (vI z2 :: vI z1 :: st) X Q = WP d 141 71 [l0, l1, l2, l3] (vI (z1 % z2) :: st) X Q := w_irem (by rfl) h1 h2
theorem s141_71 {l0 l1 l2 l3 : Value} {z1 : Int} : WP d 141 71 [l0, l1, l2, l3] (vI z1 :: []) X Q = Q (some (vI z1)) X := w_ireti (by rfl) (by rfl)
/-! 142 BellsThatEatModel.holds -/
theorem e142 {d : Nat} {X : q_H} {z1 : Int} {z2 : Int} {z3 : Int} {r : Option Value} {X' : q_H} (hd : 1 ≤ d) (h : WP (d - 1) 142 0 [.ref 82, vI z1, vI z2, vI z3, .null, .null, .null, .null, .null] [] X (fun r1 X1 => r1 = r ∧ X1 = X')) : Sp d 142 [.ref 82, vI z1, vI z2, vI z3] X r X' := Sp.of1 hd (vs := [.ref 82, vI z1, vI z2, vI z3]) (ls := [.ref 82, vI z1, vI z2, vI z3, .null, .null, .null, .null, .null]) (by rfl) (by rfl) h
theorem E142 {d : Nat} {X : q_H} {z1 : Int} {z2 : Int} {z3 : Int} {Q : Option Value → q_H → Prop} (hd : 1 ≤ d) (h : WP (d - 1) 142 0 [.ref 82, vI z1, vI z2, vI z3, .null, .null, .null, .null, .null] [] X Q) : ∃ r X', Sp d 142 [.ref 82, vI z1, vI z2, vI z3] X r X' ∧ Q r X' := Sp.of2 hd (vs := [.ref 82, vI z1, vI z2, vI z3]) (ls := [.ref 82, vI z1, vI z2, vI z3, .null, .null, .null, .null, .null]) (by rfl) (by rfl) h
theorem s142_0 {l0 l1 l2 l3 l4 l5 l6 l7 l8 : Value}  : WP d 142 0 [l0, l1, l2, l3, l4, l5, l6, l7, l8] (st) X Q = WP d 142 1 [l0, l1, l2, l3, l4, l5, l6, l7, l8] (vI (0) :: st) X Q := w_iconst (by rfl)
theorem s142_1 {l0 l1 l2 l4 l5 l6 l7 l8 : Value} {z1 : Int} {z2 : Int} : WP d 142 1 [l0, l1, l2, vI z1, l4, l5, l6, l7, l8] (vI z2 :: st) X Q = WP d 142 3 [l0, l1, l2, vI z1, vI z2, l5, l6, l7, l8] (st) X Q := w_istore (by rfl) (q_okb_s rfl rfl) (Nat.le_of_ble_eq_true rfl) rfl
theorem s142_3 {l1 l2 l3 l4 l5 l6 l7 l8 : Value}  : WP d 142 3 [.ref 82, l1, l2, l3, l4, l5, l6, l7, l8] (st) X Q = WP d 142 4 [.ref 82, l1, l2, l3, l4, l5, l6, l7, l8] (.ref 82 :: st) X Q := w_aload_n (by rfl) rfl (by decide)
theorem s142_4 {l0 l1 l2 l3 l4 l5 l6 l7 l8 : Value} (hN : 82 < N) : WP d 142 4 [l0, l1, l2, l3, l4, l5, l6, l7, l8] (.ref 82 :: st) (N, L, M) Q = WP d 142 7 [l0, l1, l2, l3, l4, l5, l6, l7, l8] (M 82 17 :: st) (N, L, M) Q := w_getf (by rfl) (by rfl) hN (by decide) (by rfl)
theorem s142_7 {l0 l2 l3 l4 l5 l6 l7 l8 : Value} {z1 : Int} : WP d 142 7 [l0, vI z1, l2, l3, l4, l5, l6, l7, l8] (st) X Q = WP d 142 8 [l0, vI z1, l2, l3, l4, l5, l6, l7, l8] (vI z1 :: st) X Q := w_iload_n (by rfl) rfl
theorem s142_8 {l0 l1 l2 l3 l4 l5 l6 l7 l8 : Value} {j1 : Int} (hj : 0 ≤ j1 ∧ j1 < 60) (hN : 92 < N) : WP d 142 8 [l0, l1, l2, l3, l4, l5, l6, l7, l8] (vI j1 :: .ref 92 :: st) (N, L, M) Q = WP d 142 9 [l0, l1, l2, l3, l4, l5, l6, l7, l8] (M 92 j1.toNat :: st) (N, L, M) Q := w_iald (by rfl) (m := 60) (by rfl) hN (by decide) hj (by decide)
theorem s142_9 {l0 l1 l2 l3 l5 l6 l7 l8 : Value} {z1 : Int} {z2 : Int} : WP d 142 9 [l0, l1, l2, l3, vI z1, l5, l6, l7, l8] (vI z2 :: st) X Q = WP d 142 11 [l0, l1, l2, l3, vI z1, vI z2, l6, l7, l8] (st) X Q := w_istore (by rfl) (q_okb_s rfl rfl) (Nat.le_of_ble_eq_true rfl) rfl
theorem s142_11 {l0 l1 l2 l3 l4 l6 l7 l8 : Value} {z1 : Int} : WP d 142 11 [l0, l1, l2, l3, l4, vI z1, l6, l7, l8] (st) X Q = WP d 142 13 [l0, l1, l2, l3, l4, vI z1, l6, l7, l8] (vI z1 :: st) X Q := w_iload (by rfl) rfl
theorem s142_13 {l1 l2 l3 l4 l5 l6 l7 l8 : Value}  : WP d 142 13 [.ref 82, l1, l2, l3, l4, l5, l6, l7, l8] (st) X Q = WP d 142 14 [.ref 82, l1, l2, l3, l4, l5, l6, l7, l8] (.ref 82 :: st) X Q := w_aload_n (by rfl) rfl (by decide)
theorem s142_14 {l0 l1 l2 l3 l4 l5 l6 l7 l8 : Value} (hN : 82 < N) : WP d 142 14 [l0, l1, l2, l3, l4, l5, l6, l7, l8] (.ref 82 :: st) (N, L, M) Q = WP d 142 17 [l0, l1, l2, l3, l4, l5, l6, l7, l8] (M 82 18 :: st) (N, L, M) Q := w_getf (by rfl) (by rfl) hN (by decide) (by rfl)
theorem s142_17 {l0 l2 l3 l4 l5 l6 l7 l8 : Value} {z1 : Int} : WP d 142 17 [l0, vI z1, l2, l3, l4, l5, l6, l7, l8] (st) X Q = WP d 142 18 [l0, vI z1, l2, l3, l4, l5, l6, l7, l8] (vI z1 :: st) X Q := w_iload_n (by rfl) rfl
theorem s142_18 {l0 l1 l2 l3 l4 l5 l6 l7 l8 : Value} {j1 : Int} (hj : 0 ≤ j1 ∧ j1 < 60) (hN : 93 < N) : WP d 142 18 [l0, l1, l2, l3, l4, l5, l6, l7, l8] (vI j1 :: .ref 93 :: st) (N, L, M) Q = WP d 142 19 [l0, l1, l2, l3, l4, l5, l6, l7, l8] (M 93 j1.toNat :: st) (N, L, M) Q := w_iald (by rfl) (m := 60) (by rfl) hN (by decide) hj (by decide)
theorem s142_19 {l0 l1 l2 l3 l4 l5 l6 l7 l8 : Value} {z1 : Int} {z2 : Int} (h1 : -2147483648 ≤ z1 ∧ z1 ≤ 2147483647) (h2 : -2147483648 ≤ z2 ∧ z2 ≤ 2147483647) : WP d 142 19 [l0, l1, l2, l3, l4, l5, l6, l7, l8] (vI z2 :: vI z1 :: st) X Q = if z1 < z2 then WP d 142 22 [l0, l1, l2, l3, l4, l5, l6, l7, l8] (st) X Q else WP d 142 253 [l0, l1, l2, l3, l4, l5, l6, l7, l8] (st) X Q := w_icmpge (by rfl) (by decide) h1 h2
theorem s142_22 {l1 l2 l3 l4 l5 l6 l7 l8 : Value}  : WP d 142 22 [.ref 82, l1, l2, l3, l4, l5, l6, l7, l8] (st) X Q = WP d 142 23 [.ref 82, l1, l2, l3, l4, l5, l6, l7, l8] (.ref 82 :: st) X Q := w_aload_n (by rfl) rfl (by decide)
theorem s142_23 {l0 l1 l2 l3 l4 l5 l6 l7 l8 : Value} (hN : 82 < N) : WP d 142 23 [l0, l1, l2, l3, l4, l5, l6, l7, l8] (.ref 82 :: st) (N, L, M) Q = WP d 142 26 [l0, l1, l2, l3, l4, l5, l6, l7, l8] (M 82 19 :: st) (N, L, M) Q := w_getf (by rfl) (by rfl) hN (by decide) (by rfl)
theorem s142_26 {l0 l1 l2 l3 l4 l6 l7 l8 : Value} {z1 : Int} : WP d 142 26 [l0, l1, l2, l3, l4, vI z1, l6, l7, l8] (st) X Q = WP d 142 28 [l0, l1, l2, l3, l4, vI z1, l6, l7, l8] (vI z1 :: st) X Q := w_iload (by rfl) rfl
theorem s142_28 {l0 l1 l2 l3 l4 l5 l6 l7 l8 : Value} {j1 : Int} (hj : 0 ≤ j1 ∧ j1 < 600) (hN : 94 < N) : WP d 142 28 [l0, l1, l2, l3, l4, l5, l6, l7, l8] (vI j1 :: .ref 94 :: st) (N, L, M) Q = WP d 142 29 [l0, l1, l2, l3, l4, l5, l6, l7, l8] (M 94 j1.toNat :: st) (N, L, M) Q := w_iald (by rfl) (m := 600) (by rfl) hN (by decide) hj (by decide)
theorem s142_29 {l0 l1 l2 l3 l4 l6 l7 l8 : Value} {z1 : Int} {z2 : Int} : WP d 142 29 [l0, l1, l2, l3, l4, vI z1, l6, l7, l8] (vI z2 :: st) X Q = WP d 142 31 [l0, l1, l2, l3, l4, vI z1, vI z2, l7, l8] (st) X Q := w_istore (by rfl) (q_okb_s rfl rfl) (Nat.le_of_ble_eq_true rfl) rfl
theorem s142_31 {l0 l1 l2 l3 l4 l5 l7 l8 : Value} {z1 : Int} : WP d 142 31 [l0, l1, l2, l3, l4, l5, vI z1, l7, l8] (st) X Q = WP d 142 33 [l0, l1, l2, l3, l4, l5, vI z1, l7, l8] (vI z1 :: st) X Q := w_iload (by rfl) rfl
theorem s142_33 {l0 l1 l2 l3 l4 l5 l6 l7 l8 : Value}  : WP d 142 33 [l0, l1, l2, l3, l4, l5, l6, l7, l8] (st) X Q = WP d 142 35 [l0, l1, l2, l3, l4, l5, l6, l7, l8] (vI (-33) :: st) X Q := w_bipush (by rfl) (by decide)
theorem s142_35 {l0 l1 l2 l3 l4 l5 l6 l7 l8 : Value} {z1 : Int} {z2 : Int} (h1 : -2147483648 ≤ z1 ∧ z1 ≤ 2147483647) (h2 : -2147483648 ≤ z2 ∧ z2 ≤ 2147483647) : WP d 142 35 [l0, l1, l2, l3, l4, l5, l6, l7, l8] (vI z2 :: vI z1 :: st) X Q = if z1 = z2 then WP d 142 38 [l0, l1, l2, l3, l4, l5, l6, l7, l8] (st) X Q else WP d 142 67 [l0, l1, l2, l3, l4, l5, l6, l7, l8] (st) X Q := w_icmpne (by rfl) (by decide) h1 h2
theorem s142_35b {l0 l1 l2 l3 l4 l5 l6 l7 l8 : Value} {P R : Prop} [Decidable P] [Decidable R] : WP d 142 35 [l0, l1, l2, l3, l4, l5, l6, l7, l8] (vI (bI R) :: vI (bI P) :: st) X Q = if (P ↔ R) then WP d 142 38 [l0, l1, l2, l3, l4, l5, l6, l7, l8] (st) X Q else WP d 142 67 [l0, l1, l2, l3, l4, l5, l6, l7, l8] (st) X Q := w_icmpneb (by rfl) (by decide)
theorem s142_38 {l1 l2 l3 l4 l5 l6 l7 l8 : Value}  : WP d 142 38 [.ref 82, l1, l2, l3, l4, l5, l6, l7, l8] (st) X Q = WP d 142 39 [.ref 82, l1, l2, l3, l4, l5, l6, l7, l8] (.ref 82 :: st) X Q := w_aload_n (by rfl) rfl (by decide)
theorem s142_39 {l0 l1 l2 l3 l4 l5 l6 l7 l8 : Value} (hN : 82 < N) : WP d 142 39 [l0, l1, l2, l3, l4, l5, l6, l7, l8] (.ref 82 :: st) (N, L, M) Q = WP d 142 42 [l0, l1, l2, l3, l4, l5, l6, l7, l8] (M 82 25 :: st) (N, L, M) Q := w_getf (by rfl) (by rfl) hN (by decide) (by rfl)
theorem s142_42 {l0 l1 l2 l3 l5 l6 l7 l8 : Value} {z1 : Int} : WP d 142 42 [l0, l1, l2, l3, vI z1, l5, l6, l7, l8] (st) X Q = WP d 142 44 [l0, l1, l2, l3, vI z1, l5, l6, l7, l8] (vI z1 :: st) X Q := w_iload (by rfl) rfl
theorem s142_44 {l0 l1 l2 l3 l4 l5 l6 l7 l8 : Value}  : WP d 142 44 [l0, l1, l2, l3, l4, l5, l6, l7, l8] (st) X Q = WP d 142 45 [l0, l1, l2, l3, l4, l5, l6, l7, l8] (vI (1) :: st) X Q := w_iconst (by rfl)
theorem s142_45 {l0 l1 l2 l3 l4 l5 l6 l7 l8 : Value} {z1 : Int} {z2 : Int} : WP d 142 45 [l0, l1, l2, l3, l4, l5, l6, l7, l8] (vI z2 :: vI z1 :: st) X Q = WP d 142 46 [l0, l1, l2, l3, l4, l5, l6, l7, l8] (vI (z1 - z2) :: st) X Q := w_isub (by rfl)
theorem s142_46 {l1 l2 l3 l4 l5 l6 l7 l8 : Value}  : WP d 142 46 [.ref 82, l1, l2, l3, l4, l5, l6, l7, l8] (st) X Q = WP d 142 47 [.ref 82, l1, l2, l3, l4, l5, l6, l7, l8] (.ref 82 :: st) X Q := w_aload_n (by rfl) rfl (by decide)
theorem s142_47 {l0 l1 l2 l3 l4 l5 l6 l7 l8 : Value} (hN : 82 < N) : WP d 142 47 [l0, l1, l2, l3, l4, l5, l6, l7, l8] (.ref 82 :: st) (N, L, M) Q = WP d 142 50 [l0, l1, l2, l3, l4, l5, l6, l7, l8] (M 82 25 :: st) (N, L, M) Q := w_getf (by rfl) (by rfl) hN (by decide) (by rfl)
theorem s142_50 {l0 l1 l2 l3 l5 l6 l7 l8 : Value} {z1 : Int} : WP d 142 50 [l0, l1, l2, l3, vI z1, l5, l6, l7, l8] (st) X Q = WP d 142 52 [l0, l1, l2, l3, vI z1, l5, l6, l7, l8] (vI z1 :: st) X Q := w_iload (by rfl) rfl
theorem s142_52 {l0 l1 l2 l3 l4 l5 l6 l7 l8 : Value}  : WP d 142 52 [l0, l1, l2, l3, l4, l5, l6, l7, l8] (st) X Q = WP d 142 53 [l0, l1, l2, l3, l4, l5, l6, l7, l8] (vI (1) :: st) X Q := w_iconst (by rfl)
theorem s142_53 {l0 l1 l2 l3 l4 l5 l6 l7 l8 : Value} {z1 : Int} {z2 : Int} : WP d 142 53 [l0, l1, l2, l3, l4, l5, l6, l7, l8] (vI z2 :: vI z1 :: st) X Q = WP d 142 54 [l0, l1, l2, l3, l4, l5, l6, l7, l8] (vI (z1 - z2) :: st) X Q := w_isub (by rfl)
theorem s142_54 {l0 l1 l2 l3 l4 l5 l6 l7 l8 : Value} {j1 : Int} (hj : 0 ≤ j1 ∧ j1 < 100) (hN : 97 < N) : WP d 142 54 [l0, l1, l2, l3, l4, l5, l6, l7, l8] (vI j1 :: .ref 97 :: st) (N, L, M) Q = WP d 142 55 [l0, l1, l2, l3, l4, l5, l6, l7, l8] (M 97 j1.toNat :: st) (N, L, M) Q := w_bald (by rfl) (k := 19) (m := 100) (by rfl) rfl hN (by decide) hj (by decide)
theorem s142_55 {l0 l1 l2 l3 l4 l5 l6 l7 l8 : Value} {z1 : Int} (h1 : -2147483648 ≤ z1 ∧ z1 ≤ 2147483647) : WP d 142 55 [l0, l1, l2, l3, l4, l5, l6, l7, l8] (vI z1 :: st) X Q = if z1 = 0 then WP d 142 58 [l0, l1, l2, l3, l4, l5, l6, l7, l8] (st) X Q else WP d 142 62 [l0, l1, l2, l3, l4, l5, l6, l7, l8] (st) X Q := w_ifne (by rfl) (by decide) h1
theorem s142_55b {l0 l1 l2 l3 l4 l5 l6 l7 l8 : Value} {P : Prop} [Decidable P] : WP d 142 55 [l0, l1, l2, l3, l4, l5, l6, l7, l8] (vI (bI P) :: st) X Q = if P then WP d 142 62 [l0, l1, l2, l3, l4, l5, l6, l7, l8] (st) X Q else WP d 142 58 [l0, l1, l2, l3, l4, l5, l6, l7, l8] (st) X Q := w_ifneb (by rfl) (by decide)
theorem s142_58 {l0 l1 l2 l3 l4 l5 l6 l7 l8 : Value}  : WP d 142 58 [l0, l1, l2, l3, l4, l5, l6, l7, l8] (st) X Q = WP d 142 59 [l0, l1, l2, l3, l4, l5, l6, l7, l8] (vI (1) :: st) X Q := w_iconst (by rfl)
theorem s142_59 {l0 l1 l2 l3 l4 l5 l6 l7 l8 : Value}  : WP d 142 59 [l0, l1, l2, l3, l4, l5, l6, l7, l8] (st) X Q = WP d 142 63 [l0, l1, l2, l3, l4, l5, l6, l7, l8] (st) X Q := w_goto (by rfl) (by decide)
theorem s142_62 {l0 l1 l2 l3 l4 l5 l6 l7 l8 : Value}  : WP d 142 62 [l0, l1, l2, l3, l4, l5, l6, l7, l8] (st) X Q = WP d 142 63 [l0, l1, l2, l3, l4, l5, l6, l7, l8] (vI (0) :: st) X Q := w_iconst (by rfl)
theorem s142_63 {l0 l1 l2 l3 l4 l5 l6 l7 l8 : Value} {j1 : Int} {z2 : Int} (hj : 0 ≤ j1 ∧ j1 < 100) (hN : 97 < N) (hz : z2 = 0 ∨ z2 = 1) : WP d 142 63 [l0, l1, l2, l3, l4, l5, l6, l7, l8] (vI z2 :: vI j1 :: .ref 97 :: st) (N, L, M) Q = WP d 142 64 [l0, l1, l2, l3, l4, l5, l6, l7, l8] (st) (N, L, up M 97 j1.toNat (vI z2)) Q := w_bast (by rfl) (k := 19) (m := 100) (by rfl) (by decide) hN hj (by decide) (nb_bool hz)
theorem s142_64 {l0 l1 l2 l3 l4 l5 l6 l7 l8 : Value}  : WP d 142 64 [l0, l1, l2, l3, l4, l5, l6, l7, l8] (st) X Q = WP d 142 247 [l0, l1, l2, l3, l4, l5, l6, l7, l8] (st) X Q := w_goto (by rfl) (by decide)
theorem s142_67 {l0 l1 l2 l3 l4 l5 l7 l8 : Value} {z1 : Int} : WP d 142 67 [l0, l1, l2, l3, l4, l5, vI z1, l7, l8] (st) X Q = WP d 142 69 [l0, l1, l2, l3, l4, l5, vI z1, l7, l8] (vI z1 :: st) X Q := w_iload (by rfl) rfl
theorem s142_69 {l0 l1 l2 l3 l4 l5 l6 l7 l8 : Value} {z1 : Int} (h1 : -2147483648 ≤ z1 ∧ z1 ≤ 2147483647) : WP d 142 69 [l0, l1, l2, l3, l4, l5, l6, l7, l8] (vI z1 :: st) X Q = if z1 < 0 then WP d 142 72 [l0, l1, l2, l3, l4, l5, l6, l7, l8] (st) X Q else WP d 142 151 [l0, l1, l2, l3, l4, l5, l6, l7, l8] (st) X Q := w_ifge (by rfl) (by decide) h1
theorem s142_72 {l0 l1 l2 l5 l6 l7 l8 : Value} {z1 : Int} {z2 : Int} : WP d 142 72 [l0, l1, l2, vI z2, vI z1, l5, l6, l7, l8] (st) X Q = WP d 142 75 [l0, l1, l2, vI z2, vI (z1 + -1), l5, l6, l7, l8] (st) X Q := w_iinc (by rfl) rfl (q_okb_s rfl rfl) (Nat.le_of_ble_eq_true rfl) rfl
theorem s142_75 {l1 l2 l3 l4 l5 l6 l7 l8 : Value}  : WP d 142 75 [.ref 82, l1, l2, l3, l4, l5, l6, l7, l8] (st) X Q = WP d 142 76 [.ref 82, l1, l2, l3, l4, l5, l6, l7, l8] (.ref 82 :: st) X Q := w_aload_n (by rfl) rfl (by decide)
theorem s142_76 {l0 l1 l2 l3 l4 l5 l6 l7 l8 : Value} (hN : 82 < N) : WP d 142 76 [l0, l1, l2, l3, l4, l5, l6, l7, l8] (.ref 82 :: st) (N, L, M) Q = WP d 142 79 [l0, l1, l2, l3, l4, l5, l6, l7, l8] (M 82 25 :: st) (N, L, M) Q := w_getf (by rfl) (by rfl) hN (by decide) (by rfl)
theorem s142_79 {l0 l1 l2 l3 l5 l6 l7 l8 : Value} {z1 : Int} : WP d 142 79 [l0, l1, l2, l3, vI z1, l5, l6, l7, l8] (st) X Q = WP d 142 81 [l0, l1, l2, l3, vI z1, l5, l6, l7, l8] (vI z1 :: st) X Q := w_iload (by rfl) rfl
theorem s142_81 {l0 l1 l2 l3 l4 l5 l6 l7 l8 : Value}  : WP d 142 81 [l0, l1, l2, l3, l4, l5, l6, l7, l8] (st) X Q = WP d 142 82 [l0, l1, l2, l3, l4, l5, l6, l7, l8] (vI (1) :: st) X Q := w_iconst (by rfl)
theorem s142_82 {l0 l1 l2 l3 l4 l5 l6 l7 l8 : Value} {z1 : Int} {z2 : Int} : WP d 142 82 [l0, l1, l2, l3, l4, l5, l6, l7, l8] (vI z2 :: vI z1 :: st) X Q = WP d 142 83 [l0, l1, l2, l3, l4, l5, l6, l7, l8] (vI (z1 - z2) :: st) X Q := w_isub (by rfl)
theorem s142_83 {l0 l1 l2 l3 l4 l5 l7 l8 : Value} {z1 : Int} : WP d 142 83 [l0, l1, l2, l3, l4, l5, vI z1, l7, l8] (st) X Q = WP d 142 85 [l0, l1, l2, l3, l4, l5, vI z1, l7, l8] (vI z1 :: st) X Q := w_iload (by rfl) rfl
theorem s142_85 {l0 l1 l2 l3 l4 l5 l6 l7 l8 : Value}  : WP d 142 85 [l0, l1, l2, l3, l4, l5, l6, l7, l8] (st) X Q = WP d 142 87 [l0, l1, l2, l3, l4, l5, l6, l7, l8] (vI (-38) :: st) X Q := w_bipush (by rfl) (by decide)
theorem s142_87 {l0 l1 l2 l3 l4 l5 l6 l7 l8 : Value} {z1 : Int} {z2 : Int} (h1 : -2147483648 ≤ z1 ∧ z1 ≤ 2147483647) (h2 : -2147483648 ≤ z2 ∧ z2 ≤ 2147483647) : WP d 142 87 [l0, l1, l2, l3, l4, l5, l6, l7, l8] (vI z2 :: vI z1 :: st) X Q = if z1 = z2 then WP d 142 90 [l0, l1, l2, l3, l4, l5, l6, l7, l8] (st) X Q else WP d 142 120 [l0, l1, l2, l3, l4, l5, l6, l7, l8] (st) X Q := w_icmpne (by rfl) (by decide) h1 h2
theorem s142_87b {l0 l1 l2 l3 l4 l5 l6 l7 l8 : Value} {P R : Prop} [Decidable P] [Decidable R] : WP d 142 87 [l0, l1, l2, l3, l4, l5, l6, l7, l8] (vI (bI R) :: vI (bI P) :: st) X Q = if (P ↔ R) then WP d 142 90 [l0, l1, l2, l3, l4, l5, l6, l7, l8] (st) X Q else WP d 142 120 [l0, l1, l2, l3, l4, l5, l6, l7, l8] (st) X Q := w_icmpneb (by rfl) (by decide)
theorem s142_90 {l1 l2 l3 l4 l5 l6 l7 l8 : Value}  : WP d 142 90 [.ref 82, l1, l2, l3, l4, l5, l6, l7, l8] (st) X Q = WP d 142 91 [.ref 82, l1, l2, l3, l4, l5, l6, l7, l8] (.ref 82 :: st) X Q := w_aload_n (by rfl) rfl (by decide)
theorem s142_91 {l0 l1 l2 l3 l4 l5 l6 l7 l8 : Value} (hN : 82 < N) : WP d 142 91 [l0, l1, l2, l3, l4, l5, l6, l7, l8] (.ref 82 :: st) (N, L, M) Q = WP d 142 94 [l0, l1, l2, l3, l4, l5, l6, l7, l8] (M 82 25 :: st) (N, L, M) Q := w_getf (by rfl) (by rfl) hN (by decide) (by rfl)
theorem s142_94 {l0 l1 l2 l3 l5 l6 l7 l8 : Value} {z1 : Int} : WP d 142 94 [l0, l1, l2, l3, vI z1, l5, l6, l7, l8] (st) X Q = WP d 142 96 [l0, l1, l2, l3, vI z1, l5, l6, l7, l8] (vI z1 :: st) X Q := w_iload (by rfl) rfl
theorem s142_96 {l0 l1 l2 l3 l4 l5 l6 l7 l8 : Value}  : WP d 142 96 [l0, l1, l2, l3, l4, l5, l6, l7, l8] (st) X Q = WP d 142 97 [l0, l1, l2, l3, l4, l5, l6, l7, l8] (vI (1) :: st) X Q := w_iconst (by rfl)
theorem s142_97 {l0 l1 l2 l3 l4 l5 l6 l7 l8 : Value} {z1 : Int} {z2 : Int} : WP d 142 97 [l0, l1, l2, l3, l4, l5, l6, l7, l8] (vI z2 :: vI z1 :: st) X Q = WP d 142 98 [l0, l1, l2, l3, l4, l5, l6, l7, l8] (vI (z1 - z2) :: st) X Q := w_isub (by rfl)
theorem s142_98 {l0 l1 l2 l3 l4 l5 l6 l7 l8 : Value} {j1 : Int} (hj : 0 ≤ j1 ∧ j1 < 100) (hN : 97 < N) : WP d 142 98 [l0, l1, l2, l3, l4, l5, l6, l7, l8] (vI j1 :: .ref 97 :: st) (N, L, M) Q = WP d 142 99 [l0, l1, l2, l3, l4, l5, l6, l7, l8] (M 97 j1.toNat :: st) (N, L, M) Q := w_bald (by rfl) (k := 19) (m := 100) (by rfl) rfl hN (by decide) hj (by decide)
theorem s142_99 {l0 l1 l2 l3 l4 l5 l6 l7 l8 : Value} {z1 : Int} (h1 : -2147483648 ≤ z1 ∧ z1 ≤ 2147483647) : WP d 142 99 [l0, l1, l2, l3, l4, l5, l6, l7, l8] (vI z1 :: st) X Q = if z1 = 0 then WP d 142 116 [l0, l1, l2, l3, l4, l5, l6, l7, l8] (st) X Q else WP d 142 102 [l0, l1, l2, l3, l4, l5, l6, l7, l8] (st) X Q := w_ifeq (by rfl) (by decide) h1
theorem s142_99b {l0 l1 l2 l3 l4 l5 l6 l7 l8 : Value} {P : Prop} [Decidable P] : WP d 142 99 [l0, l1, l2, l3, l4, l5, l6, l7, l8] (vI (bI P) :: st) X Q = if P then WP d 142 102 [l0, l1, l2, l3, l4, l5, l6, l7, l8] (st) X Q else WP d 142 116 [l0, l1, l2, l3, l4, l5, l6, l7, l8] (st) X Q := w_ifeqb (by rfl) (by decide)
theorem s142_102 {l1 l2 l3 l4 l5 l6 l7 l8 : Value}  : WP d 142 102 [.ref 82, l1, l2, l3, l4, l5, l6, l7, l8] (st) X Q = WP d 142 103 [.ref 82, l1, l2, l3, l4, l5, l6, l7, l8] (.ref 82 :: st) X Q := w_aload_n (by rfl) rfl (by decide)
theorem s142_103 {l0 l1 l2 l3 l4 l5 l6 l7 l8 : Value} (hN : 82 < N) : WP d 142 103 [l0, l1, l2, l3, l4, l5, l6, l7, l8] (.ref 82 :: st) (N, L, M) Q = WP d 142 106 [l0, l1, l2, l3, l4, l5, l6, l7, l8] (M 82 25 :: st) (N, L, M) Q := w_getf (by rfl) (by rfl) hN (by decide) (by rfl)
theorem s142_106 {l0 l1 l2 l3 l5 l6 l7 l8 : Value} {z1 : Int} : WP d 142 106 [l0, l1, l2, l3, vI z1, l5, l6, l7, l8] (st) X Q = WP d 142 108 [l0, l1, l2, l3, vI z1, l5, l6, l7, l8] (vI z1 :: st) X Q := w_iload (by rfl) rfl
theorem s142_108 {l0 l1 l2 l3 l4 l5 l6 l7 l8 : Value} {j1 : Int} (hj : 0 ≤ j1 ∧ j1 < 100) (hN : 97 < N) : WP d 142 108 [l0, l1, l2, l3, l4, l5, l6, l7, l8] (vI j1 :: .ref 97 :: st) (N, L, M) Q = WP d 142 109 [l0, l1, l2, l3, l4, l5, l6, l7, l8] (M 97 j1.toNat :: st) (N, L, M) Q := w_bald (by rfl) (k := 19) (m := 100) (by rfl) rfl hN (by decide) hj (by decide)
theorem s142_109 {l0 l1 l2 l3 l4 l5 l6 l7 l8 : Value} {z1 : Int} (h1 : -2147483648 ≤ z1 ∧ z1 ≤ 2147483647) : WP d 142 109 [l0, l1, l2, l3, l4, l5, l6, l7, l8] (vI z1 :: st) X Q = if z1 = 0 then WP d 142 116 [l0, l1, l2, l3, l4, l5, l6, l7, l8] (st) X Q else WP d 142 112 [l0, l1, l2, l3, l4, l5, l6, l7, l8] (st) X Q := w_ifeq (by rfl) (by decide) h1
theorem s142_109b {l0 l1 l2 l3 l4 l5 l6 l7 l8 : Value} {P : Prop} [Decidable P] : WP d 142 109 [l0, l1, l2, l3, l4, l5, l6, l7, l8] (vI (bI P) :: st) X Q = if P then WP d 142 112 [l0, l1, l2, l3, l4, l5, l6, l7, l8] (st) X Q else WP d 142 116 [l0, l1, l2, l3, l4, l5, l6, l7, l8] (st) X Q := w_ifeqb (by rfl) (by decide)
theorem s142_112 {l0 l1 l2 l3 l4 l5 l6 l7 l8 : Value}  : WP d 142 112 [l0, l1, l2, l3, l4, l5, l6, l7, l8] (st) X Q = WP d 142 113 [l0, l1, l2, l3, l4, l5, l6, l7, l8] (vI (1) :: st) X Q := w_iconst (by rfl)
theorem s142_113 {l0 l1 l2 l3 l4 l5 l6 l7 l8 : Value}  : WP d 142 113 [l0, l1, l2, l3, l4, l5, l6, l7, l8] (st) X Q = WP d 142 147 [l0, l1, l2, l3, l4, l5, l6, l7, l8] (st) X Q := w_goto (by rfl) (by decide)
theorem s142_116 {l0 l1 l2 l3 l4 l5 l6 l7 l8 : Value}  : WP d 142 116 [l0, l1, l2, l3, l4, l5, l6, l7, l8] (st) X Q = WP d 142 117 [l0, l1, l2, l3, l4, l5, l6, l7, l8] (vI (0) :: st) X Q := w_iconst (by rfl)
theorem s142_117 {l0 l1 l2 l3 l4 l5 l6 l7 l8 : Value}  : WP d 142 117 [l0, l1, l2, l3, l4, l5, l6, l7, l8] (st) X Q = WP d 142 147 [l0, l1, l2, l3, l4, l5, l6, l7, l8] (st) X Q := w_goto (by rfl) (by decide)
theorem s142_120 {l1 l2 l3 l4 l5 l6 l7 l8 : Value}  : WP d 142 120 [.ref 82, l1, l2, l3, l4, l5, l6, l7, l8] (st) X Q = WP d 142 121 [.ref 82, l1, l2, l3, l4, l5, l6, l7, l8] (.ref 82 :: st) X Q := w_aload_n (by rfl) rfl (by decide)
theorem s142_121 {l0 l1 l2 l3 l4 l5 l6 l7 l8 : Value} (hN : 82 < N) : WP d 142 121 [l0, l1, l2, l3, l4, l5, l6, l7, l8] (.ref 82 :: st) (N, L, M) Q = WP d 142 124 [l0, l1, l2, l3, l4, l5, l6, l7, l8] (M 82 25 :: st) (N, L, M) Q := w_getf (by rfl) (by rfl) hN (by decide) (by rfl)
theorem s142_124 {l0 l1 l2 l3 l5 l6 l7 l8 : Value} {z1 : Int} : WP d 142 124 [l0, l1, l2, l3, vI z1, l5, l6, l7, l8] (st) X Q = WP d 142 126 [l0, l1, l2, l3, vI z1, l5, l6, l7, l8] (vI z1 :: st) X Q := w_iload (by rfl) rfl
theorem s142_126 {l0 l1 l2 l3 l4 l5 l6 l7 l8 : Value}  : WP d 142 126 [l0, l1, l2, l3, l4, l5, l6, l7, l8] (st) X Q = WP d 142 127 [l0, l1, l2, l3, l4, l5, l6, l7, l8] (vI (1) :: st) X Q := w_iconst (by rfl)
theorem s142_127 {l0 l1 l2 l3 l4 l5 l6 l7 l8 : Value} {z1 : Int} {z2 : Int} : WP d 142 127 [l0, l1, l2, l3, l4, l5, l6, l7, l8] (vI z2 :: vI z1 :: st) X Q = WP d 142 128 [l0, l1, l2, l3, l4, l5, l6, l7, l8] (vI (z1 - z2) :: st) X Q := w_isub (by rfl)
theorem s142_128 {l0 l1 l2 l3 l4 l5 l6 l7 l8 : Value} {j1 : Int} (hj : 0 ≤ j1 ∧ j1 < 100) (hN : 97 < N) : WP d 142 128 [l0, l1, l2, l3, l4, l5, l6, l7, l8] (vI j1 :: .ref 97 :: st) (N, L, M) Q = WP d 142 129 [l0, l1, l2, l3, l4, l5, l6, l7, l8] (M 97 j1.toNat :: st) (N, L, M) Q := w_bald (by rfl) (k := 19) (m := 100) (by rfl) rfl hN (by decide) hj (by decide)
theorem s142_129 {l0 l1 l2 l3 l4 l5 l6 l7 l8 : Value} {z1 : Int} (h1 : -2147483648 ≤ z1 ∧ z1 ≤ 2147483647) : WP d 142 129 [l0, l1, l2, l3, l4, l5, l6, l7, l8] (vI z1 :: st) X Q = if z1 = 0 then WP d 142 132 [l0, l1, l2, l3, l4, l5, l6, l7, l8] (st) X Q else WP d 142 142 [l0, l1, l2, l3, l4, l5, l6, l7, l8] (st) X Q := w_ifne (by rfl) (by decide) h1
theorem s142_129b {l0 l1 l2 l3 l4 l5 l6 l7 l8 : Value} {P : Prop} [Decidable P] : WP d 142 129 [l0, l1, l2, l3, l4, l5, l6, l7, l8] (vI (bI P) :: st) X Q = if P then WP d 142 142 [l0, l1, l2, l3, l4, l5, l6, l7, l8] (st) X Q else WP d 142 132 [l0, l1, l2, l3, l4, l5, l6, l7, l8] (st) X Q := w_ifneb (by rfl) (by decide)
theorem s142_132 {l1 l2 l3 l4 l5 l6 l7 l8 : Value}  : WP d 142 132 [.ref 82, l1, l2, l3, l4, l5, l6, l7, l8] (st) X Q = WP d 142 133 [.ref 82, l1, l2, l3, l4, l5, l6, l7, l8] (.ref 82 :: st) X Q := w_aload_n (by rfl) rfl (by decide)
theorem s142_133 {l0 l1 l2 l3 l4 l5 l6 l7 l8 : Value} (hN : 82 < N) : WP d 142 133 [l0, l1, l2, l3, l4, l5, l6, l7, l8] (.ref 82 :: st) (N, L, M) Q = WP d 142 136 [l0, l1, l2, l3, l4, l5, l6, l7, l8] (M 82 25 :: st) (N, L, M) Q := w_getf (by rfl) (by rfl) hN (by decide) (by rfl)
theorem s142_136 {l0 l1 l2 l3 l5 l6 l7 l8 : Value} {z1 : Int} : WP d 142 136 [l0, l1, l2, l3, vI z1, l5, l6, l7, l8] (st) X Q = WP d 142 138 [l0, l1, l2, l3, vI z1, l5, l6, l7, l8] (vI z1 :: st) X Q := w_iload (by rfl) rfl
theorem s142_138 {l0 l1 l2 l3 l4 l5 l6 l7 l8 : Value} {j1 : Int} (hj : 0 ≤ j1 ∧ j1 < 100) (hN : 97 < N) : WP d 142 138 [l0, l1, l2, l3, l4, l5, l6, l7, l8] (vI j1 :: .ref 97 :: st) (N, L, M) Q = WP d 142 139 [l0, l1, l2, l3, l4, l5, l6, l7, l8] (M 97 j1.toNat :: st) (N, L, M) Q := w_bald (by rfl) (k := 19) (m := 100) (by rfl) rfl hN (by decide) hj (by decide)
theorem s142_139 {l0 l1 l2 l3 l4 l5 l6 l7 l8 : Value} {z1 : Int} (h1 : -2147483648 ≤ z1 ∧ z1 ≤ 2147483647) : WP d 142 139 [l0, l1, l2, l3, l4, l5, l6, l7, l8] (vI z1 :: st) X Q = if z1 = 0 then WP d 142 146 [l0, l1, l2, l3, l4, l5, l6, l7, l8] (st) X Q else WP d 142 142 [l0, l1, l2, l3, l4, l5, l6, l7, l8] (st) X Q := w_ifeq (by rfl) (by decide) h1
theorem s142_139b {l0 l1 l2 l3 l4 l5 l6 l7 l8 : Value} {P : Prop} [Decidable P] : WP d 142 139 [l0, l1, l2, l3, l4, l5, l6, l7, l8] (vI (bI P) :: st) X Q = if P then WP d 142 142 [l0, l1, l2, l3, l4, l5, l6, l7, l8] (st) X Q else WP d 142 146 [l0, l1, l2, l3, l4, l5, l6, l7, l8] (st) X Q := w_ifeqb (by rfl) (by decide)
theorem s142_142 {l0 l1 l2 l3 l4 l5 l6 l7 l8 : Value}  : WP d 142 142 [l0, l1, l2, l3, l4, l5, l6, l7, l8] (st) X Q = WP d 142 143 [l0, l1, l2, l3, l4, l5, l6, l7, l8] (vI (1) :: st) X Q := w_iconst (by rfl)
theorem s142_143 {l0 l1 l2 l3 l4 l5 l6 l7 l8 : Value}  : WP d 142 143 [l0, l1, l2, l3, l4, l5, l6, l7, l8] (st) X Q = WP d 142 147 [l0, l1, l2, l3, l4, l5, l6, l7, l8] (st) X Q := w_goto (by rfl) (by decide)
theorem s142_146 {l0 l1 l2 l3 l4 l5 l6 l7 l8 : Value}  : WP d 142 146 [l0, l1, l2, l3, l4, l5, l6, l7, l8] (st) X Q = WP d 142 147 [l0, l1, l2, l3, l4, l5, l6, l7, l8] (vI (0) :: st) X Q := w_iconst (by rfl)
theorem s142_147 {l0 l1 l2 l3 l4 l5 l6 l7 l8 : Value} {j1 : Int} {z2 : Int} (hj : 0 ≤ j1 ∧ j1 < 100) (hN : 97 < N) (hz : z2 = 0 ∨ z2 = 1) : WP d 142 147 [l0, l1, l2, l3, l4, l5, l6, l7, l8] (vI z2 :: vI j1 :: .ref 97 :: st) (N, L, M) Q = WP d 142 148 [l0, l1, l2, l3, l4, l5, l6, l7, l8] (st) (N, L, up M 97 j1.toNat (vI z2)) Q := w_bast (by rfl) (k := 19) (m := 100) (by rfl) (by decide) hN hj (by decide) (nb_bool hz)
theorem s142_148 {l0 l1 l2 l3 l4 l5 l6 l7 l8 : Value}  : WP d 142 148 [l0, l1, l2, l3, l4, l5, l6, l7, l8] (st) X Q = WP d 142 247 [l0, l1, l2, l3, l4, l5, l6, l7, l8] (st) X Q := w_goto (by rfl) (by decide)
theorem s142_151 {l1 l2 l3 l4 l5 l6 l7 l8 : Value}  : WP d 142 151 [.ref 82, l1, l2, l3, l4, l5, l6, l7, l8] (st) X Q = WP d 142 152 [.ref 82, l1, l2, l3, l4, l5, l6, l7, l8] (.ref 82 :: st) X Q := w_aload_n (by rfl) rfl (by decide)
theorem s142_152 {l0 l1 l2 l3 l4 l5 l7 l8 : Value} {z1 : Int} : WP d 142 152 [l0, l1, l2, l3, l4, l5, vI z1, l7, l8] (st) X Q = WP d 142 154 [l0, l1, l2, l3, l4, l5, vI z1, l7, l8] (vI z1 :: st) X Q := w_iload (by rfl) rfl
theorem s142_154 {l0 l1 l2 l3 l4 l5 l6 l7 l8 : Value}  : WP d 142 154 [l0, l1, l2, l3, l4, l5, l6, l7, l8] (st) X Q = WP d 142 157 [l0, l1, l2, l3, l4, l5, l6, l7, l8] (vI (1000) :: st) X Q := w_sipush (by rfl) (by decide)
theorem s142_157 {l0 l1 l2 l3 l4 l5 l6 l7 l8 : Value} {z1 : Int} {z2 : Int} (h1 : 0 ≤ z1 ∧ z1 ≤ 2147483647) (h2 : 0 < z2 ∧ z2 ≤ 2147483647) : WP d 142 157 [l0, l1, l2, l3, l4, l5, l6, l7, l8] (vI z2 :: vI z1 :: st) X Q = WP d 142 158 [l0, l1, l2, l3, l4, l5, l6, l7, l8] (vI (z1 / z2) :: st) X Q := w_idiv (by rfl) h1 h2
theorem s142_158 {l0 l1 l3 l4 l5 l6 l7 l8 : Value} {z1 : Int} : WP d 142 158 [l0, l1, vI z1, l3, l4, l5, l6, l7, l8] (st) X Q = WP d 142 159 [l0, l1, vI z1, l3, l4, l5, l6, l7, l8] (vI z1 :: st) X Q := w_iload_n (by rfl) rfl
theorem s142_159 {l0 l1 l2 l4 l5 l6 l7 l8 : Value} {z1 : Int} : WP d 142 159 [l0, l1, l2, vI z1, l4, l5, l6, l7, l8] (st) X Q = WP d 142 160 [l0, l1, l2, vI z1, l4, l5, l6, l7, l8] (vI z1 :: st) X Q := w_iload_n (by rfl) rfl
theorem c142_160 {l0 l1 l2 l3 l4 l5 l6 l7 l8 : Value} {z1 : Int} {z2 : Int} {z3 : Int} {r : Int} {X' : q_H} (hN : 82 < N) (hS : Sp d 141 [.ref 82, vI z1, vI z2, vI z3] (N, L, M) (some (vI r)) X') : WP d 142 160 [l0, l1, l2, l3, l4, l5, l6, l7, l8] (vI z3 :: vI z2 :: vI z1 :: .ref 82 :: []) (N, L, M) Q = WP d 142 163 [l0, l1, l2, l3, l4, l5, l6, l7, l8] (vI r :: []) X' Q := w_callv (vs := [vI z1, vI z2, vI z3]) (by rfl) (by rfl) rfl (Nat.le_of_ble_eq_true rfl) (kd := 9) (by rfl) (by decide) (Or.inl hN) (by rfl) hS
theorem s142_163 {l0 l1 l2 l3 l4 l5 l7 l8 : Value} {z1 : Int} {z2 : Int} : WP d 142 163 [l0, l1, l2, l3, l4, l5, vI z1, l7, l8] (vI z2 :: st) X Q = WP d 142 165 [l0, l1, l2, l3, l4, l5, vI z1, vI z2, l8] (st) X Q := w_istore (by rfl) (q_okb_s rfl rfl) (Nat.le_of_ble_eq_true rfl) rfl
theorem s142_165 {l0 l1 l2 l3 l4 l5 l7 l8 : Value} {z1 : Int} : WP d 142 165 [l0, l1, l2, l3, l4, l5, vI z1, l7, l8] (st) X Q = WP d 142 167 [l0, l1, l2, l3, l4, l5, vI z1, l7, l8] (vI z1 :: st) X Q := w_iload (by rfl) rfl
theorem s142_167 {l0 l1 l2 l3 l4 l5 l6 l7 l8 : Value}  : WP d 142 167 [l0, l1, l2, l3, l4, l5, l6, l7, l8] (st) X Q = WP d 142 169 [l0, l1, l2, l3, l4, l5, l6, l7, l8] (vI (100) :: st) X Q := w_bipush (by rfl) (by decide)
theorem s142_169 {l0 l1 l2 l3 l4 l5 l6 l7 l8 : Value} {z1 : Int} {z2 : Int} (h1 : 0 ≤ z1 ∧ z1 ≤ 2147483647) (h2 : 0 < z2 ∧ z2 ≤ 2147483647) : WP d 142 169 [l0, l1, l2, l3, l4, l5, l6, l7, l8] (vI z2 :: vI z1 :: st) X Q = WP d 142 170 [l0, l1, l2, l3, l4, l5, l6, l7, l8] (vI (z1 / z2) :: st) X Q := w_idiv (by rfl) h1 h2
theorem s142_170 {l0 l1 l2 l3 l4 l5 l6 l7 l8 : Value}  : WP d 142 170 [l0, l1, l2, l3, l4, l5, l6, l7, l8] (st) X Q = WP d 142 172 [l0, l1, l2, l3, l4, l5, l6, l7, l8] (vI (10) :: st) X Q := w_bipush (by rfl) (by decide)
theorem s142_172 {l0 l1 l2 l3 l4 l5 l6 l7 l8 : Value} {z1 : Int} {z2 : Int} (h1 : 0 ≤ z1 ∧ z1 ≤ 2147483647) (h2 : 0 < z2 ∧ z2 ≤ 2147483647) : WP d 142 172 [l0, l1, l2, l3, l4, l5, l6, l7, l8] (vI z2 :: vI z1 :: st) X Q = WP d 142 173 [l0, l1, l2, l3, l4, l5, l6, l7, l8] (vI (z1 % z2) :: st) X Q := w_irem (by rfl) h1 h2
theorem s142_173 {l0 l1 l2 l3 l4 l5 l6 l8 : Value} {z1 : Int} {z2 : Int} : WP d 142 173 [l0, l1, l2, l3, l4, l5, l6, vI z1, l8] (vI z2 :: st) X Q = WP d 142 175 [l0, l1, l2, l3, l4, l5, l6, vI z1, vI z2] (st) X Q := w_istore (by rfl) (q_okb_s rfl rfl) (Nat.le_of_ble_eq_true rfl) rfl
theorem s142_175 {l1 l2 l3 l4 l5 l6 l7 l8 : Value}  : WP d 142 175 [.ref 82, l1, l2, l3, l4, l5, l6, l7, l8] (st) X Q = WP d 142 176 [.ref 82, l1, l2, l3, l4, l5, l6, l7, l8] (.ref 82 :: st) X Q := w_aload_n (by rfl) rfl (by decide)
theorem s142_176 {l0 l1 l2 l3 l4 l5 l6 l7 l8 : Value} (hN : 82 < N) : WP d 142 176 [l0, l1, l2, l3, l4, l5, l6, l7, l8] (.ref 82 :: st) (N, L, M) Q = WP d 142 179 [l0, l1, l2, l3, l4, l5, l6, l7, l8] (M 82 25 :: st) (N, L, M) Q := w_getf (by rfl) (by rfl) hN (by decide) (by rfl)
theorem s142_179 {l0 l1 l2 l3 l5 l6 l7 l8 : Value} {z1 : Int} : WP d 142 179 [l0, l1, l2, l3, vI z1, l5, l6, l7, l8] (st) X Q = WP d 142 181 [l0, l1, l2, l3, vI z1, l5, l6, l7, l8] (vI z1 :: st) X Q := w_iload (by rfl) rfl
theorem s142_181 {l0 l1 l2 l3 l4 l5 l6 l7 : Value} {z1 : Int} : WP d 142 181 [l0, l1, l2, l3, l4, l5, l6, l7, vI z1] (st) X Q = WP d 142 183 [l0, l1, l2, l3, l4, l5, l6, l7, vI z1] (vI z1 :: st) X Q := w_iload (by rfl) rfl
theorem s142_183 {l0 l1 l2 l3 l4 l5 l6 l7 l8 : Value} {z1 : Int} (h1 : -2147483648 ≤ z1 ∧ z1 ≤ 2147483647) : WP d 142 183 [l0, l1, l2, l3, l4, l5, l6, l7, l8] (vI z1 :: st) X Q = if z1 = 0 then WP d 142 186 [l0, l1, l2, l3, l4, l5, l6, l7, l8] (st) X Q else WP d 142 204 [l0, l1, l2, l3, l4, l5, l6, l7, l8] (st) X Q := w_ifne (by rfl) (by decide) h1
theorem s142_183b {l0 l1 l2 l3 l4 l5 l6 l7 l8 : Value} {P : Prop} [Decidable P] : WP d 142 183 [l0, l1, l2, l3, l4, l5, l6, l7, l8] (vI (bI P) :: st) X Q = if P then WP d 142 204 [l0, l1, l2, l3, l4, l5, l6, l7, l8] (st) X Q else WP d 142 186 [l0, l1, l2, l3, l4, l5, l6, l7, l8] (st) X Q := w_ifneb (by rfl) (by decide)
theorem s142_186 {l0 l1 l2 l3 l4 l5 l6 l8 : Value} {z1 : Int} : WP d 142 186 [l0, l1, l2, l3, l4, l5, l6, vI z1, l8] (st) X Q = WP d 142 188 [l0, l1, l2, l3, l4, l5, l6, vI z1, l8] (vI z1 :: st) X Q := w_iload (by rfl) rfl
theorem s142_188 {l0 l1 l2 l3 l4 l5 l7 l8 : Value} {z1 : Int} : WP d 142 188 [l0, l1, l2, l3, l4, l5, vI z1, l7, l8] (st) X Q = WP d 142 190 [l0, l1, l2, l3, l4, l5, vI z1, l7, l8] (vI z1 :: st) X Q := w_iload (by rfl) rfl
theorem s142_190 {l0 l1 l2 l3 l4 l5 l6 l7 l8 : Value}  : WP d 142 190 [l0, l1, l2, l3, l4, l5, l6, l7, l8] (st) X Q = WP d 142 192 [l0, l1, l2, l3, l4, l5, l6, l7, l8] (vI (100) :: st) X Q := w_bipush (by rfl) (by decide)
theorem s142_192 {l0 l1 l2 l3 l4 l5 l6 l7 l8 : Value} {z1 : Int} {z2 : Int} (h1 : 0 ≤ z1 ∧ z1 ≤ 2147483647) (h2 : 0 < z2 ∧ z2 ≤ 2147483647) : WP d 142 192 [l0, l1, l2, l3, l4, l5, l6, l7, l8] (vI z2 :: vI z1 :: st) X Q = WP d 142 193 [l0, l1, l2, l3, l4, l5, l6, l7, l8] (vI (z1 % z2) :: st) X Q := w_irem (by rfl) h1 h2
theorem s142_193 {l0 l1 l2 l3 l4 l5 l6 l7 l8 : Value} {z1 : Int} {z2 : Int} (h1 : -2147483648 ≤ z1 ∧ z1 ≤ 2147483647) (h2 : -2147483648 ≤ z2 ∧ z2 ≤ 2147483647) : WP d 142 193 [l0, l1, l2, l3, l4, l5, l6, l7, l8] (vI z2 :: vI z1 :: st) X Q = if z1 < z2 then WP d 142 196 [l0, l1, l2, l3, l4, l5, l6, l7, l8] (st) X Q else WP d 142 200 [l0, l1, l2, l3, l4, l5, l6, l7, l8] (st) X Q := w_icmpge (by rfl) (by decide) h1 h2
theorem s142_196 {l0 l1 l2 l3 l4 l5 l6 l7 l8 : Value}  : WP d 142 196 [l0, l1, l2, l3, l4, l5, l6, l7, l8] (st) X Q = WP d 142 197 [l0, l1, l2, l3, l4, l5, l6, l7, l8] (vI (1) :: st) X Q := w_iconst (by rfl)
theorem s142_197 {l0 l1 l2 l3 l4 l5 l6 l7 l8 : Value}  : WP d 142 197 [l0, l1, l2, l3, l4, l5, l6, l7, l8] (st) X Q = WP d 142 243 [l0, l1, l2, l3, l4, l5, l6, l7, l8] (st) X Q := w_goto (by rfl) (by decide)
theorem s142_200 {l0 l1 l2 l3 l4 l5 l6 l7 l8 : Value}  : WP d 142 200 [l0, l1, l2, l3, l4, l5, l6, l7, l8] (st) X Q = WP d 142 201 [l0, l1, l2, l3, l4, l5, l6, l7, l8] (vI (0) :: st) X Q := w_iconst (by rfl)
theorem s142_201 {l0 l1 l2 l3 l4 l5 l6 l7 l8 : Value}  : WP d 142 201 [l0, l1, l2, l3, l4, l5, l6, l7, l8] (st) X Q = WP d 142 243 [l0, l1, l2, l3, l4, l5, l6, l7, l8] (st) X Q := w_goto (by rfl) (by decide)
theorem s142_204 {l0 l1 l2 l3 l4 l5 l6 l7 : Value} {z1 : Int} : WP d 142 204 [l0, l1, l2, l3, l4, l5, l6, l7, vI z1] (st) X Q = WP d 142 206 [l0, l1, l2, l3, l4, l5, l6, l7, vI z1] (vI z1 :: st) X Q := w_iload (by rfl) rfl
theorem s142_206 {l0 l1 l2 l3 l4 l5 l6 l7 l8 : Value}  : WP d 142 206 [l0, l1, l2, l3, l4, l5, l6, l7, l8] (st) X Q = WP d 142 207 [l0, l1, l2, l3, l4, l5, l6, l7, l8] (vI (1) :: st) X Q := w_iconst (by rfl)
theorem s142_207 {l0 l1 l2 l3 l4 l5 l6 l7 l8 : Value} {z1 : Int} {z2 : Int} (h1 : -2147483648 ≤ z1 ∧ z1 ≤ 2147483647) (h2 : -2147483648 ≤ z2 ∧ z2 ≤ 2147483647) : WP d 142 207 [l0, l1, l2, l3, l4, l5, l6, l7, l8] (vI z2 :: vI z1 :: st) X Q = if z1 = z2 then WP d 142 210 [l0, l1, l2, l3, l4, l5, l6, l7, l8] (st) X Q else WP d 142 228 [l0, l1, l2, l3, l4, l5, l6, l7, l8] (st) X Q := w_icmpne (by rfl) (by decide) h1 h2
theorem s142_207b {l0 l1 l2 l3 l4 l5 l6 l7 l8 : Value} {P R : Prop} [Decidable P] [Decidable R] : WP d 142 207 [l0, l1, l2, l3, l4, l5, l6, l7, l8] (vI (bI R) :: vI (bI P) :: st) X Q = if (P ↔ R) then WP d 142 210 [l0, l1, l2, l3, l4, l5, l6, l7, l8] (st) X Q else WP d 142 228 [l0, l1, l2, l3, l4, l5, l6, l7, l8] (st) X Q := w_icmpneb (by rfl) (by decide)
theorem s142_210 {l0 l1 l2 l3 l4 l5 l6 l8 : Value} {z1 : Int} : WP d 142 210 [l0, l1, l2, l3, l4, l5, l6, vI z1, l8] (st) X Q = WP d 142 212 [l0, l1, l2, l3, l4, l5, l6, vI z1, l8] (vI z1 :: st) X Q := w_iload (by rfl) rfl
theorem s142_212 {l0 l1 l2 l3 l4 l5 l7 l8 : Value} {z1 : Int} : WP d 142 212 [l0, l1, l2, l3, l4, l5, vI z1, l7, l8] (st) X Q = WP d 142 214 [l0, l1, l2, l3, l4, l5, vI z1, l7, l8] (vI z1 :: st) X Q := w_iload (by rfl) rfl
theorem s142_214 {l0 l1 l2 l3 l4 l5 l6 l7 l8 : Value}  : WP d 142 214 [l0, l1, l2, l3, l4, l5, l6, l7, l8] (st) X Q = WP d 142 216 [l0, l1, l2, l3, l4, l5, l6, l7, l8] (vI (100) :: st) X Q := w_bipush (by rfl) (by decide)
theorem s142_216 {l0 l1 l2 l3 l4 l5 l6 l7 l8 : Value} {z1 : Int} {z2 : Int} (h1 : 0 ≤ z1 ∧ z1 ≤ 2147483647) (h2 : 0 < z2 ∧ z2 ≤ 2147483647) : WP d 142 216 [l0, l1, l2, l3, l4, l5, l6, l7, l8] (vI z2 :: vI z1 :: st) X Q = WP d 142 217 [l0, l1, l2, l3, l4, l5, l6, l7, l8] (vI (z1 % z2) :: st) X Q := w_irem (by rfl) h1 h2
theorem s142_217 {l0 l1 l2 l3 l4 l5 l6 l7 l8 : Value} {z1 : Int} {z2 : Int} (h1 : -2147483648 ≤ z1 ∧ z1 ≤ 2147483647) (h2 : -2147483648 ≤ z2 ∧ z2 ≤ 2147483647) : WP d 142 217 [l0, l1, l2, l3, l4, l5, l6, l7, l8] (vI z2 :: vI z1 :: st) X Q = if z1 = z2 then WP d 142 220 [l0, l1, l2, l3, l4, l5, l6, l7, l8] (st) X Q else WP d 142 224 [l0, l1, l2, l3, l4, l5, l6, l7, l8] (st) X Q := w_icmpne (by rfl) (by decide) h1 h2
theorem s142_217b {l0 l1 l2 l3 l4 l5 l6 l7 l8 : Value} {P R : Prop} [Decidable P] [Decidable R] : WP d 142 217 [l0, l1, l2, l3, l4, l5, l6, l7, l8] (vI (bI R) :: vI (bI P) :: st) X Q = if (P ↔ R) then WP d 142 220 [l0, l1, l2, l3, l4, l5, l6, l7, l8] (st) X Q else WP d 142 224 [l0, l1, l2, l3, l4, l5, l6, l7, l8] (st) X Q := w_icmpneb (by rfl) (by decide)
theorem s142_220 {l0 l1 l2 l3 l4 l5 l6 l7 l8 : Value}  : WP d 142 220 [l0, l1, l2, l3, l4, l5, l6, l7, l8] (st) X Q = WP d 142 221 [l0, l1, l2, l3, l4, l5, l6, l7, l8] (vI (1) :: st) X Q := w_iconst (by rfl)
theorem s142_221 {l0 l1 l2 l3 l4 l5 l6 l7 l8 : Value}  : WP d 142 221 [l0, l1, l2, l3, l4, l5, l6, l7, l8] (st) X Q = WP d 142 243 [l0, l1, l2, l3, l4, l5, l6, l7, l8] (st) X Q := w_goto (by rfl) (by decide)
theorem s142_224 {l0 l1 l2 l3 l4 l5 l6 l7 l8 : Value}  : WP d 142 224 [l0, l1, l2, l3, l4, l5, l6, l7, l8] (st) X Q = WP d 142 225 [l0, l1, l2, l3, l4, l5, l6, l7, l8] (vI (0) :: st) X Q := w_iconst (by rfl)
theorem s142_225 {l0 l1 l2 l3 l4 l5 l6 l7 l8 : Value}  : WP d 142 225 [l0, l1, l2, l3, l4, l5, l6, l7, l8] (st) X Q = WP d 142 243 [l0, l1, l2, l3, l4, l5, l6, l7, l8] (st) X Q := w_goto (by rfl) (by decide)
theorem s142_228 {l0 l1 l2 l3 l4 l5 l6 l8 : Value} {z1 : Int} : WP d 142 228 [l0, l1, l2, l3, l4, l5, l6, vI z1, l8] (st) X Q = WP d 142 230 [l0, l1, l2, l3, l4, l5, l6, vI z1, l8] (vI z1 :: st) X Q := w_iload (by rfl) rfl
theorem s142_230 {l0 l1 l2 l3 l4 l5 l7 l8 : Value} {z1 : Int} : WP d 142 230 [l0, l1, l2, l3, l4, l5, vI z1, l7, l8] (st) X Q = WP d 142 232 [l0, l1, l2, l3, l4, l5, vI z1, l7, l8] (vI z1 :: st) X Q := w_iload (by rfl) rfl
theorem s142_232 {l0 l1 l2 l3 l4 l5 l6 l7 l8 : Value}  : WP d 142 232 [l0, l1, l2, l3, l4, l5, l6, l7, l8] (st) X Q = WP d 142 234 [l0, l1, l2, l3, l4, l5, l6, l7, l8] (vI (100) :: st) X Q := w_bipush (by rfl) (by decide)
theorem s142_234 {l0 l1 l2 l3 l4 l5 l6 l7 l8 : Value} {z1 : Int} {z2 : Int} (h1 : 0 ≤ z1 ∧ z1 ≤ 2147483647) (h2 : 0 < z2 ∧ z2 ≤ 2147483647) : WP d 142 234 [l0, l1, l2, l3, l4, l5, l6, l7, l8] (vI z2 :: vI z1 :: st) X Q = WP d 142 235 [l0, l1, l2, l3, l4, l5, l6, l7, l8] (vI (z1 % z2) :: st) X Q := w_irem (by rfl) h1 h2
theorem s142_235 {l0 l1 l2 l3 l4 l5 l6 l7 l8 : Value} {z1 : Int} {z2 : Int} (h1 : -2147483648 ≤ z1 ∧ z1 ≤ 2147483647) (h2 : -2147483648 ≤ z2 ∧ z2 ≤ 2147483647) : WP d 142 235 [l0, l1, l2, l3, l4, l5, l6, l7, l8] (vI z2 :: vI z1 :: st) X Q = if z2 < z1 then WP d 142 238 [l0, l1, l2, l3, l4, l5, l6, l7, l8] (st) X Q else WP d 142 242 [l0, l1, l2, l3, l4, l5, l6, l7, l8] (st) X Q := w_icmple (by rfl) (by decide) h1 h2
theorem s142_238 {l0 l1 l2 l3 l4 l5 l6 l7 l8 : Value}  : WP d 142 238 [l0, l1, l2, l3, l4, l5, l6, l7, l8] (st) X Q = WP d 142 239 [l0, l1, l2, l3, l4, l5, l6, l7, l8] (vI (1) :: st) X Q := w_iconst (by rfl)
theorem s142_239 {l0 l1 l2 l3 l4 l5 l6 l7 l8 : Value}  : WP d 142 239 [l0, l1, l2, l3, l4, l5, l6, l7, l8] (st) X Q = WP d 142 243 [l0, l1, l2, l3, l4, l5, l6, l7, l8] (st) X Q := w_goto (by rfl) (by decide)
theorem s142_242 {l0 l1 l2 l3 l4 l5 l6 l7 l8 : Value}  : WP d 142 242 [l0, l1, l2, l3, l4, l5, l6, l7, l8] (st) X Q = WP d 142 243 [l0, l1, l2, l3, l4, l5, l6, l7, l8] (vI (0) :: st) X Q := w_iconst (by rfl)
theorem s142_243 {l0 l1 l2 l3 l4 l5 l6 l7 l8 : Value} {j1 : Int} {z2 : Int} (hj : 0 ≤ j1 ∧ j1 < 100) (hN : 97 < N) (hz : z2 = 0 ∨ z2 = 1) : WP d 142 243 [l0, l1, l2, l3, l4, l5, l6, l7, l8] (vI z2 :: vI j1 :: .ref 97 :: st) (N, L, M) Q = WP d 142 244 [l0, l1, l2, l3, l4, l5, l6, l7, l8] (st) (N, L, up M 97 j1.toNat (vI z2)) Q := w_bast (by rfl) (k := 19) (m := 100) (by rfl) (by decide) hN hj (by decide) (nb_bool hz)
theorem s142_244 {l0 l1 l2 l5 l6 l7 l8 : Value} {z1 : Int} {z2 : Int} : WP d 142 244 [l0, l1, l2, vI z2, vI z1, l5, l6, l7, l8] (st) X Q = WP d 142 247 [l0, l1, l2, vI z2, vI (z1 + 1), l5, l6, l7, l8] (st) X Q := w_iinc (by rfl) rfl (q_okb_s rfl rfl) (Nat.le_of_ble_eq_true rfl) rfl
theorem s142_247 {l0 l1 l2 l3 l6 l7 l8 : Value} {z1 : Int} {z2 : Int} : WP d 142 247 [l0, l1, l2, l3, vI z2, vI z1, l6, l7, l8] (st) X Q = WP d 142 250 [l0, l1, l2, l3, vI z2, vI (z1 + 1), l6, l7, l8] (st) X Q := w_iinc (by rfl) rfl (q_okb_s rfl rfl) (Nat.le_of_ble_eq_true rfl) rfl
theorem s142_250 {l0 l1 l2 l3 l4 l5 l6 l7 l8 : Value}  : WP d 142 250 [l0, l1, l2, l3, l4, l5, l6, l7, l8] (st) X Q = WP d 142 11 [l0, l1, l2, l3, l4, l5, l6, l7, l8] (st) X Q := w_goto (by rfl) (by decide)
theorem s142_253 {l1 l2 l3 l4 l5 l6 l7 l8 : Value}  : WP d 142 253 [.ref 82, l1, l2, l3, l4, l5, l6, l7, l8] (st) X Q = WP d 142 254 [.ref 82, l1, l2, l3, l4, l5, l6, l7, l8] (.ref 82 :: st) X Q := w_aload_n (by rfl) rfl (by decide)
theorem s142_254 {l0 l1 l2 l3 l4 l5 l6 l7 l8 : Value} (hN : 82 < N) : WP d 142 254 [l0, l1, l2, l3, l4, l5, l6, l7, l8] (.ref 82 :: st) (N, L, M) Q = WP d 142 257 [l0, l1, l2, l3, l4, l5, l6, l7, l8] (M 82 25 :: st) (N, L, M) Q := w_getf (by rfl) (by rfl) hN (by decide) (by rfl)
theorem s142_257 {l0 l1 l2 l3 l4 l5 l6 l7 l8 : Value}  : WP d 142 257 [l0, l1, l2, l3, l4, l5, l6, l7, l8] (st) X Q = WP d 142 258 [l0, l1, l2, l3, l4, l5, l6, l7, l8] (vI (0) :: st) X Q := w_iconst (by rfl)
theorem s142_258 {l0 l1 l2 l3 l4 l5 l6 l7 l8 : Value} {j1 : Int} (hj : 0 ≤ j1 ∧ j1 < 100) (hN : 97 < N) : WP d 142 258 [l0, l1, l2, l3, l4, l5, l6, l7, l8] (vI j1 :: .ref 97 :: st) (N, L, M) Q = WP d 142 259 [l0, l1, l2, l3, l4, l5, l6, l7, l8] (M 97 j1.toNat :: st) (N, L, M) Q := w_bald (by rfl) (k := 19) (m := 100) (by rfl) rfl hN (by decide) hj (by decide)
theorem s142_259 {l0 l1 l2 l3 l4 l5 l6 l7 l8 : Value} {z1 : Int} (hz : z1 = 0 ∨ z1 = 1) : WP d 142 259 [l0, l1, l2, l3, l4, l5, l6, l7, l8] (vI z1 :: []) X Q = Q (some (vI z1)) X := w_iretz (by rfl) (by rfl) (nb_bool hz)
theorem s142_259b {l0 l1 l2 l3 l4 l5 l6 l7 l8 : Value} {P : Prop} [Decidable P] : WP d 142 259 [l0, l1, l2, l3, l4, l5, l6, l7, l8] (vI (bI P) :: []) X Q = Q (some (vI (bI P))) X := w_iretz (by rfl) (by rfl) (nb_bool (bI_01 P))
/-! 143 BellsThatEatModel.liking -/
theorem e143 {d : Nat} {X : q_H} {z1 : Int} {z2 : Int} {r : Option Value} {X' : q_H} (hd : 1 ≤ d) (h : WP (d - 1) 143 0 [.ref 82, vI z1, vI z2, .null, .null] [] X (fun r1 X1 => r1 = r ∧ X1 = X')) : Sp d 143 [.ref 82, vI z1, vI z2] X r X' := Sp.of1 hd (vs := [.ref 82, vI z1, vI z2]) (ls := [.ref 82, vI z1, vI z2, .null, .null]) (by rfl) (by rfl) h
theorem E143 {d : Nat} {X : q_H} {z1 : Int} {z2 : Int} {Q : Option Value → q_H → Prop} (hd : 1 ≤ d) (h : WP (d - 1) 143 0 [.ref 82, vI z1, vI z2, .null, .null] [] X Q) : ∃ r X', Sp d 143 [.ref 82, vI z1, vI z2] X r X' ∧ Q r X' := Sp.of2 hd (vs := [.ref 82, vI z1, vI z2]) (ls := [.ref 82, vI z1, vI z2, .null, .null]) (by rfl) (by rfl) h
theorem s143_0 {l0 l1 l2 l3 l4 : Value}  : WP d 143 0 [l0, l1, l2, l3, l4] (st) X Q = WP d 143 1 [l0, l1, l2, l3, l4] (vI (5) :: st) X Q := w_iconst (by rfl)
theorem s143_1 {l0 l1 l3 l4 : Value} {z1 : Int} : WP d 143 1 [l0, l1, vI z1, l3, l4] (st) X Q = WP d 143 2 [l0, l1, vI z1, l3, l4] (vI z1 :: st) X Q := w_iload_n (by rfl) rfl
theorem s143_2 {l0 l1 l2 l3 l4 : Value}  : WP d 143 2 [l0, l1, l2, l3, l4] (st) X Q = WP d 143 3 [l0, l1, l2, l3, l4] (vI (1) :: st) X Q := w_iconst (by rfl)
theorem s143_3 {l0 l1 l2 l3 l4 : Value} {z1 : Int} {z2 : Int} : WP d 143 3 [l0, l1, l2, l3, l4] (vI z2 :: vI z1 :: st) X Q = WP d 143 4 [l0, l1, l2, l3, l4] (vI (z1 + z2) :: st) X Q := w_iadd (by rfl)
theorem s143_4 {l0 l1 l2 l3 l4 : Value} {z1 : Int} {z2 : Int} : WP d 143 4 [l0, l1, l2, l3, l4] (vI z2 :: vI z1 :: st) X Q = WP d 143 5 [l0, l1, l2, l3, l4] (vI (z1 * z2) :: st) X Q := w_imul (by rfl)
theorem s143_5 {l0 l1 l3 l4 : Value} {z1 : Int} {z2 : Int} : WP d 143 5 [l0, l1, vI z1, l3, l4] (vI z2 :: st) X Q = WP d 143 6 [l0, l1, vI z1, vI z2, l4] (st) X Q := w_istore_n (by rfl) (q_okb_s rfl rfl) (Nat.le_of_ble_eq_true rfl) rfl
theorem s143_6 {l1 l2 l3 l4 : Value}  : WP d 143 6 [.ref 82, l1, l2, l3, l4] (st) X Q = WP d 143 7 [.ref 82, l1, l2, l3, l4] (.ref 82 :: st) X Q := w_aload_n (by rfl) rfl (by decide)
theorem c143_7 {l0 l1 l2 l3 l4 : Value} {r : Int} {X' : q_H} (hN : 82 < N) (hS : Sp d 138 [.ref 82] (N, L, M) (some (vI r)) X') : WP d 143 7 [l0, l1, l2, l3, l4] (.ref 82 :: []) (N, L, M) Q = WP d 143 10 [l0, l1, l2, l3, l4] (vI r :: []) X' Q := w_callv (vs := []) (by rfl) (by rfl) rfl (Nat.le_of_ble_eq_true rfl) (kd := 9) (by rfl) (by decide) (Or.inl hN) (by rfl) hS
theorem s143_10 {l0 l1 l2 l4 : Value} {z1 : Int} {z2 : Int} : WP d 143 10 [l0, l1, l2, vI z1, l4] (vI z2 :: st) X Q = WP d 143 12 [l0, l1, l2, vI z1, vI z2] (st) X Q := w_istore (by rfl) (q_okb_s rfl rfl) (Nat.le_of_ble_eq_true rfl) rfl
theorem s143_12 {l0 l1 l2 l3 : Value} {z1 : Int} : WP d 143 12 [l0, l1, l2, l3, vI z1] (st) X Q = WP d 143 14 [l0, l1, l2, l3, vI z1] (vI z1 :: st) X Q := w_iload (by rfl) rfl
theorem s143_14 {l1 l2 l3 l4 : Value}  : WP d 143 14 [.ref 82, l1, l2, l3, l4] (st) X Q = WP d 143 15 [.ref 82, l1, l2, l3, l4] (.ref 82 :: st) X Q := w_aload_n (by rfl) rfl (by decide)
theorem c143_15 {l0 l1 l2 l3 l4 : Value} {x0 : Value} {r : Int} {X' : q_H} (hN : 82 < N) (hS : Sp d 139 [.ref 82] (N, L, M) (some (vI r)) X') : WP d 143 15 [l0, l1, l2, l3, l4] (.ref 82 :: x0 :: []) (N, L, M) Q = WP d 143 18 [l0, l1, l2, l3, l4] (vI r :: x0 :: []) X' Q := w_callv (vs := []) (by rfl) (by rfl) rfl (Nat.le_of_ble_eq_true rfl) (kd := 9) (by rfl) (by decide) (Or.inl hN) (by rfl) hS
theorem s143_18 {l0 l1 l2 l3 l4 : Value} {z1 : Int} {z2 : Int} (h1 : -2147483648 ≤ z1 ∧ z1 ≤ 2147483647) (h2 : -2147483648 ≤ z2 ∧ z2 ≤ 2147483647) : WP d 143 18 [l0, l1, l2, l3, l4] (vI z2 :: vI z1 :: st) X Q = if z1 < z2 then WP d 143 21 [l0, l1, l2, l3, l4] (st) X Q else WP d 143 83 [l0, l1, l2, l3, l4] (st) X Q := w_icmpge (by rfl) (by decide) h1 h2
theorem s143_21 {l1 l2 l3 l4 : Value}  : WP d 143 21 [.ref 82, l1, l2, l3, l4] (st) X Q = WP d 143 22 [.ref 82, l1, l2, l3, l4] (.ref 82 :: st) X Q := w_aload_n (by rfl) rfl (by decide)
theorem s143_22 {l0 l1 l2 l3 l4 : Value} (hN : 82 < N) : WP d 143 22 [l0, l1, l2, l3, l4] (.ref 82 :: st) (N, L, M) Q = WP d 143 25 [l0, l1, l2, l3, l4] (M 82 15 :: st) (N, L, M) Q := w_getf (by rfl) (by rfl) hN (by decide) (by rfl)
theorem s143_25 {l0 l1 l2 l3 : Value} {z1 : Int} : WP d 143 25 [l0, l1, l2, l3, vI z1] (st) X Q = WP d 143 27 [l0, l1, l2, l3, vI z1] (vI z1 :: st) X Q := w_iload (by rfl) rfl
theorem s143_27 {l0 l1 l2 l3 l4 : Value} {j1 : Int} (hj : 0 ≤ j1 ∧ j1 < 60) (hN : 90 < N) : WP d 143 27 [l0, l1, l2, l3, l4] (vI j1 :: .ref 90 :: st) (N, L, M) Q = WP d 143 28 [l0, l1, l2, l3, l4] (M 90 j1.toNat :: st) (N, L, M) Q := w_iald (by rfl) (m := 60) (by rfl) hN (by decide) hj (by decide)
theorem s143_28 {l0 l1 l2 l3 l4 : Value}  : WP d 143 28 [l0, l1, l2, l3, l4] (st) X Q = WP d 143 29 [l0, l1, l2, l3, l4] (vI (1) :: st) X Q := w_iconst (by rfl)
theorem s143_29 {l0 l1 l2 l3 l4 : Value} {z1 : Int} {z2 : Int} (h1 : -2147483648 ≤ z1 ∧ z1 ≤ 2147483647) (h2 : -2147483648 ≤ z2 ∧ z2 ≤ 2147483647) : WP d 143 29 [l0, l1, l2, l3, l4] (vI z2 :: vI z1 :: st) X Q = if z2 < z1 then WP d 143 77 [l0, l1, l2, l3, l4] (st) X Q else WP d 143 32 [l0, l1, l2, l3, l4] (st) X Q := w_icmpgt (by rfl) (by decide) h1 h2
theorem s143_32 {l1 l2 l3 l4 : Value}  : WP d 143 32 [.ref 82, l1, l2, l3, l4] (st) X Q = WP d 143 33 [.ref 82, l1, l2, l3, l4] (.ref 82 :: st) X Q := w_aload_n (by rfl) rfl (by decide)
theorem s143_33 {l0 l1 l2 l3 : Value} {z1 : Int} : WP d 143 33 [l0, l1, l2, l3, vI z1] (st) X Q = WP d 143 35 [l0, l1, l2, l3, vI z1] (vI z1 :: st) X Q := w_iload (by rfl) rfl
theorem s143_35 {l0 l2 l3 l4 : Value} {z1 : Int} : WP d 143 35 [l0, vI z1, l2, l3, l4] (st) X Q = WP d 143 36 [l0, vI z1, l2, l3, l4] (vI z1 :: st) X Q := w_iload_n (by rfl) rfl
theorem s143_36 {l0 l1 l3 l4 : Value} {z1 : Int} : WP d 143 36 [l0, l1, vI z1, l3, l4] (st) X Q = WP d 143 37 [l0, l1, vI z1, l3, l4] (vI z1 :: st) X Q := w_iload_n (by rfl) rfl
theorem c143_37 {l0 l1 l2 l3 l4 : Value} {z1 : Int} {z2 : Int} {z3 : Int} {r : Int} {X' : q_H} (hN : 82 < N) (hS : Sp d 142 [.ref 82, vI z1, vI z2, vI z3] (N, L, M) (some (vI r)) X') : WP d 143 37 [l0, l1, l2, l3, l4] (vI z3 :: vI z2 :: vI z1 :: .ref 82 :: []) (N, L, M) Q = WP d 143 40 [l0, l1, l2, l3, l4] (vI r :: []) X' Q := w_callv (vs := [vI z1, vI z2, vI z3]) (by rfl) (by rfl) rfl (Nat.le_of_ble_eq_true rfl) (kd := 9) (by rfl) (by decide) (Or.inl hN) (by rfl) hS
theorem s143_40 {l0 l1 l2 l3 l4 : Value} {z1 : Int} (h1 : -2147483648 ≤ z1 ∧ z1 ≤ 2147483647) : WP d 143 40 [l0, l1, l2, l3, l4] (vI z1 :: st) X Q = if z1 = 0 then WP d 143 43 [l0, l1, l2, l3, l4] (st) X Q else WP d 143 46 [l0, l1, l2, l3, l4] (st) X Q := w_ifne (by rfl) (by decide) h1
theorem s143_40b {l0 l1 l2 l3 l4 : Value} {P : Prop} [Decidable P] : WP d 143 40 [l0, l1, l2, l3, l4] (vI (bI P) :: st) X Q = if P then WP d 143 46 [l0, l1, l2, l3, l4] (st) X Q else WP d 143 43 [l0, l1, l2, l3, l4] (st) X Q := w_ifneb (by rfl) (by decide)
theorem s143_43 {l0 l1 l2 l3 l4 : Value}  : WP d 143 43 [l0, l1, l2, l3, l4] (st) X Q = WP d 143 77 [l0, l1, l2, l3, l4] (st) X Q := w_goto (by rfl) (by decide)
theorem s143_46 {l0 l1 l2 l4 : Value} {z1 : Int} : WP d 143 46 [l0, l1, l2, vI z1, l4] (st) X Q = WP d 143 47 [l0, l1, l2, vI z1, l4] (vI z1 :: st) X Q := w_iload_n (by rfl) rfl
theorem s143_47 {l1 l2 l3 l4 : Value}  : WP d 143 47 [.ref 82, l1, l2, l3, l4] (st) X Q = WP d 143 48 [.ref 82, l1, l2, l3, l4] (.ref 82 :: st) X Q := w_aload_n (by rfl) rfl (by decide)
theorem s143_48 {l0 l1 l2 l3 l4 : Value} (hN : 82 < N) : WP d 143 48 [l0, l1, l2, l3, l4] (.ref 82 :: st) (N, L, M) Q = WP d 143 51 [l0, l1, l2, l3, l4] (M 82 15 :: st) (N, L, M) Q := w_getf (by rfl) (by rfl) hN (by decide) (by rfl)
theorem s143_51 {l0 l1 l2 l3 : Value} {z1 : Int} : WP d 143 51 [l0, l1, l2, l3, vI z1] (st) X Q = WP d 143 53 [l0, l1, l2, l3, vI z1] (vI z1 :: st) X Q := w_iload (by rfl) rfl
theorem s143_53 {l0 l1 l2 l3 l4 : Value} {j1 : Int} (hj : 0 ≤ j1 ∧ j1 < 60) (hN : 90 < N) : WP d 143 53 [l0, l1, l2, l3, l4] (vI j1 :: .ref 90 :: st) (N, L, M) Q = WP d 143 54 [l0, l1, l2, l3, l4] (M 90 j1.toNat :: st) (N, L, M) Q := w_iald (by rfl) (m := 60) (by rfl) hN (by decide) hj (by decide)
theorem s143_54 {l0 l1 l2 l3 l4 : Value} {z1 : Int} (h1 : -2147483648 ≤ z1 ∧ z1 ≤ 2147483647) : WP d 143 54 [l0, l1, l2, l3, l4] (vI z1 :: st) X Q = if z1 = 0 then WP d 143 57 [l0, l1, l2, l3, l4] (st) X Q else WP d 143 67 [l0, l1, l2, l3, l4] (st) X Q := w_ifne (by rfl) (by decide) h1
theorem s143_54b {l0 l1 l2 l3 l4 : Value} {P : Prop} [Decidable P] : WP d 143 54 [l0, l1, l2, l3, l4] (vI (bI P) :: st) X Q = if P then WP d 143 67 [l0, l1, l2, l3, l4] (st) X Q else WP d 143 57 [l0, l1, l2, l3, l4] (st) X Q := w_ifneb (by rfl) (by decide)
theorem s143_57 {l1 l2 l3 l4 : Value}  : WP d 143 57 [.ref 82, l1, l2, l3, l4] (st) X Q = WP d 143 58 [.ref 82, l1, l2, l3, l4] (.ref 82 :: st) X Q := w_aload_n (by rfl) rfl (by decide)
theorem s143_58 {l0 l1 l2 l3 l4 : Value} (hN : 82 < N) : WP d 143 58 [l0, l1, l2, l3, l4] (.ref 82 :: st) (N, L, M) Q = WP d 143 61 [l0, l1, l2, l3, l4] (M 82 16 :: st) (N, L, M) Q := w_getf (by rfl) (by rfl) hN (by decide) (by rfl)
theorem s143_61 {l0 l1 l2 l3 : Value} {z1 : Int} : WP d 143 61 [l0, l1, l2, l3, vI z1] (st) X Q = WP d 143 63 [l0, l1, l2, l3, vI z1] (vI z1 :: st) X Q := w_iload (by rfl) rfl
theorem s143_63 {l0 l1 l2 l3 l4 : Value} {j1 : Int} (hj : 0 ≤ j1 ∧ j1 < 60) (hN : 91 < N) : WP d 143 63 [l0, l1, l2, l3, l4] (vI j1 :: .ref 91 :: st) (N, L, M) Q = WP d 143 64 [l0, l1, l2, l3, l4] (M 91 j1.toNat :: st) (N, L, M) Q := w_iald (by rfl) (m := 60) (by rfl) hN (by decide) hj (by decide)
theorem s143_64 {l0 l1 l2 l3 l4 : Value}  : WP d 143 64 [l0, l1, l2, l3, l4] (st) X Q = WP d 143 75 [l0, l1, l2, l3, l4] (st) X Q := w_goto (by rfl) (by decide)
theorem s143_67 {l1 l2 l3 l4 : Value}  : WP d 143 67 [.ref 82, l1, l2, l3, l4] (st) X Q = WP d 143 68 [.ref 82, l1, l2, l3, l4] (.ref 82 :: st) X Q := w_aload_n (by rfl) rfl (by decide)
theorem s143_68 {l0 l1 l2 l3 l4 : Value} (hN : 82 < N) : WP d 143 68 [l0, l1, l2, l3, l4] (.ref 82 :: st) (N, L, M) Q = WP d 143 71 [l0, l1, l2, l3, l4] (M 82 16 :: st) (N, L, M) Q := w_getf (by rfl) (by rfl) hN (by decide) (by rfl)
theorem s143_71 {l0 l1 l2 l3 : Value} {z1 : Int} : WP d 143 71 [l0, l1, l2, l3, vI z1] (st) X Q = WP d 143 73 [l0, l1, l2, l3, vI z1] (vI z1 :: st) X Q := w_iload (by rfl) rfl
theorem s143_73 {l0 l1 l2 l3 l4 : Value} {j1 : Int} (hj : 0 ≤ j1 ∧ j1 < 60) (hN : 91 < N) : WP d 143 73 [l0, l1, l2, l3, l4] (vI j1 :: .ref 91 :: st) (N, L, M) Q = WP d 143 74 [l0, l1, l2, l3, l4] (M 91 j1.toNat :: st) (N, L, M) Q := w_iald (by rfl) (m := 60) (by rfl) hN (by decide) hj (by decide)
theorem s143_74 {l0 l1 l2 l3 l4 : Value} {z1 : Int} : WP d 143 74 [l0, l1, l2, l3, l4] (vI z1 :: st) X Q = WP d 143 75 [l0, l1, l2, l3, l4] (vI (-z1) :: st) X Q := w_ineg (by rfl)
theorem s143_75 {l0 l1 l2 l3 l4 : Value} {z1 : Int} {z2 : Int} : WP d 143 75 [l0, l1, l2, l3, l4] (vI z2 :: vI z1 :: st) X Q = WP d 143 76 [l0, l1, l2, l3, l4] (vI (z1 + z2) :: st) X Q := w_iadd (by rfl)
theorem s143_76 {l0 l1 l3 l4 : Value} {z1 : Int} {z2 : Int} : WP d 143 76 [l0, l1, vI z1, l3, l4] (vI z2 :: st) X Q = WP d 143 77 [l0, l1, vI z1, vI z2, l4] (st) X Q := w_istore_n (by rfl) (q_okb_s rfl rfl) (Nat.le_of_ble_eq_true rfl) rfl
theorem s143_77 {l0 l1 l2 : Value} {z1 : Int} {z2 : Int} : WP d 143 77 [l0, l1, l2, vI z2, vI z1] (st) X Q = WP d 143 80 [l0, l1, l2, vI z2, vI (z1 + 1)] (st) X Q := w_iinc (by rfl) rfl (q_okb_s rfl rfl) (Nat.le_of_ble_eq_true rfl) rfl
theorem s143_80 {l0 l1 l2 l3 l4 : Value}  : WP d 143 80 [l0, l1, l2, l3, l4] (st) X Q = WP d 143 12 [l0, l1, l2, l3, l4] (st) X Q := w_goto (by rfl) (by decide)
theorem s143_83 {l1 l2 l3 l4 : Value}  : WP d 143 83 [.ref 82, l1, l2, l3, l4] (st) X Q = WP d 143 84 [.ref 82, l1, l2, l3, l4] (.ref 82 :: st) X Q := w_aload_n (by rfl) rfl (by decide)
theorem s143_84 {l0 l1 l2 l4 : Value} {z1 : Int} : WP d 143 84 [l0, l1, l2, vI z1, l4] (st) X Q = WP d 143 85 [l0, l1, l2, vI z1, l4] (vI z1 :: st) X Q := w_iload_n (by rfl) rfl
theorem c143_85 {l0 l1 l2 l3 l4 : Value} {z1 : Int} {r : Int} {X' : q_H} (hN : 82 < N) (hS : Sp d 111 [.ref 82, vI z1] (N, L, M) (some (vI r)) X') : WP d 143 85 [l0, l1, l2, l3, l4] (vI z1 :: .ref 82 :: []) (N, L, M) Q = WP d 143 88 [l0, l1, l2, l3, l4] (vI r :: []) X' Q := w_callv (vs := [vI z1]) (by rfl) (by rfl) rfl (Nat.le_of_ble_eq_true rfl) (kd := 9) (by rfl) (by decide) (Or.inl hN) (by rfl) hS
theorem s143_88 {l0 l1 l2 l3 l4 : Value} {z1 : Int} : WP d 143 88 [l0, l1, l2, l3, l4] (vI z1 :: []) X Q = Q (some (vI z1)) X := w_ireti (by rfl) (by rfl)
/-! 144 BellsThatEatModel.fills -/
theorem e144 {d : Nat} {X : q_H} {z1 : Int} {z2 : Int} {r : Option Value} {X' : q_H} (hd : 1 ≤ d) (h : WP (d - 1) 144 0 [.ref 82, vI z1, vI z2, .null] [] X (fun r1 X1 => r1 = r ∧ X1 = X')) : Sp d 144 [.ref 82, vI z1, vI z2] X r X' := Sp.of1 hd (vs := [.ref 82, vI z1, vI z2]) (ls := [.ref 82, vI z1, vI z2, .null]) (by rfl) (by rfl) h
theorem E144 {d : Nat} {X : q_H} {z1 : Int} {z2 : Int} {Q : Option Value → q_H → Prop} (hd : 1 ≤ d) (h : WP (d - 1) 144 0 [.ref 82, vI z1, vI z2, .null] [] X Q) : ∃ r X', Sp d 144 [.ref 82, vI z1, vI z2] X r X' ∧ Q r X' := Sp.of2 hd (vs := [.ref 82, vI z1, vI z2]) (ls := [.ref 82, vI z1, vI z2, .null]) (by rfl) (by rfl) h
theorem s144_0 {l1 l2 l3 : Value}  : WP d 144 0 [.ref 82, l1, l2, l3] (st) X Q = WP d 144 1 [.ref 82, l1, l2, l3] (.ref 82 :: st) X Q := w_aload_n (by rfl) rfl (by decide)
theorem s144_1 {l0 l2 l3 : Value} {z1 : Int} : WP d 144 1 [l0, vI z1, l2, l3] (st) X Q = WP d 144 2 [l0, vI z1, l2, l3] (vI z1 :: st) X Q := w_iload_n (by rfl) rfl
theorem s144_2 {l0 l1 l3 : Value} {z1 : Int} : WP d 144 2 [l0, l1, vI z1, l3] (st) X Q = WP d 144 3 [l0, l1, vI z1, l3] (vI z1 :: st) X Q := w_iload_n (by rfl) rfl
theorem c144_3 {l0 l1 l2 l3 : Value} {z1 : Int} {z2 : Int} {r : Int} {X' : q_H} (hN : 82 < N) (hS : Sp d 143 [.ref 82, vI z1, vI z2] (N, L, M) (some (vI r)) X') : WP d 144 3 [l0, l1, l2, l3] (vI z2 :: vI z1 :: .ref 82 :: []) (N, L, M) Q = WP d 144 6 [l0, l1, l2, l3] (vI r :: []) X' Q := w_callv (vs := [vI z1, vI z2]) (by rfl) (by rfl) rfl (Nat.le_of_ble_eq_true rfl) (kd := 9) (by rfl) (by decide) (Or.inl hN) (by rfl) hS
theorem s144_6 {l0 l1 l3 : Value} {z1 : Int} {z2 : Int} : WP d 144 6 [l0, l1, vI z1, l3] (vI z2 :: st) X Q = WP d 144 7 [l0, l1, vI z1, vI z2] (st) X Q := w_istore_n (by rfl) (q_okb_s rfl rfl) (Nat.le_of_ble_eq_true rfl) rfl
theorem s144_7 {l1 l2 l3 : Value}  : WP d 144 7 [.ref 82, l1, l2, l3] (st) X Q = WP d 144 8 [.ref 82, l1, l2, l3] (.ref 82 :: st) X Q := w_aload_n (by rfl) rfl (by decide)
theorem s144_8 {l0 l1 l2 l3 : Value} (hN : 82 < N) : WP d 144 8 [l0, l1, l2, l3] (.ref 82 :: st) (N, L, M) Q = WP d 144 11 [l0, l1, l2, l3] (M 82 3 :: st) (N, L, M) Q := w_getf (by rfl) (by rfl) hN (by decide) (by rfl)
theorem s144_11 {l0 l2 l3 : Value} {z1 : Int} : WP d 144 11 [l0, vI z1, l2, l3] (st) X Q = WP d 144 12 [l0, vI z1, l2, l3] (vI z1 :: st) X Q := w_iload_n (by rfl) rfl
theorem s144_12 {l0 l1 l2 l3 : Value} {j1 : Int} (hj : 0 ≤ j1 ∧ j1 < 6) (hN : 83 < N) : WP d 144 12 [l0, l1, l2, l3] (vI j1 :: .ref 83 :: st) (N, L, M) Q = WP d 144 13 [l0, l1, l2, l3] (M 83 j1.toNat :: st) (N, L, M) Q := w_iald (by rfl) (m := 6) (by rfl) hN (by decide) hj (by decide)
theorem s144_13 {l0 l1 l2 l3 : Value} {z1 : Int} (h1 : -2147483648 ≤ z1 ∧ z1 ≤ 2147483647) : WP d 144 13 [l0, l1, l2, l3] (vI z1 :: st) X Q = if z1 = 3 then WP d 144 44 [l0, l1, l2, l3] (st) X Q else if z1 = 4 then WP d 144 48 [l0, l1, l2, l3] (st) X Q else if z1 = 5 then WP d 144 59 [l0, l1, l2, l3] (st) X Q else if z1 = 6 then WP d 144 61 [l0, l1, l2, l3] (st) X Q else WP d 144 72 [l0, l1, l2, l3] (st) X Q := by
  by_cases e0 : z1 = 3
  · subst e0; rw [if_pos rfl]; exact w_tsw (by rfl) (by decide) (by decide) rfl (by decide)
  rw [if_neg e0]
  by_cases e1 : z1 = 4
  · subst e1; rw [if_pos rfl]; exact w_tsw (by rfl) (by decide) (by decide) rfl (by decide)
  rw [if_neg e1]
  by_cases e2 : z1 = 5
  · subst e2; rw [if_pos rfl]; exact w_tsw (by rfl) (by decide) (by decide) rfl (by decide)
  rw [if_neg e2]
  by_cases e3 : z1 = 6
  · subst e3; rw [if_pos rfl]; exact w_tsw (by rfl) (by decide) (by decide) rfl (by decide)
  rw [if_neg e3]
  exact w_tswd (by rfl) h1 (by omega) (by decide)
theorem s144_44 {l0 l1 l2 : Value} {z1 : Int} : WP d 144 44 [l0, l1, l2, vI z1] (st) X Q = WP d 144 45 [l0, l1, l2, vI z1] (vI z1 :: st) X Q := w_iload_n (by rfl) rfl
theorem s144_45 {l0 l1 l2 l3 : Value}  : WP d 144 45 [l0, l1, l2, l3] (st) X Q = WP d 144 46 [l0, l1, l2, l3] (vI (2) :: st) X Q := w_iconst (by rfl)
theorem s144_46 {l0 l1 l2 l3 : Value} {z1 : Int} {z2 : Int} (h1 : 0 ≤ z1 ∧ z1 ≤ 2147483647) (h2 : 0 < z2 ∧ z2 ≤ 2147483647) : WP d 144 46 [l0, l1, l2, l3] (vI z2 :: vI z1 :: st) X Q = WP d 144 47 [l0, l1, l2, l3] (vI (z1 / z2) :: st) X Q := w_idiv (by rfl) h1 h2
theorem s144_47 {l0 l1 l2 l3 : Value} {z1 : Int} : WP d 144 47 [l0, l1, l2, l3] (vI z1 :: []) X Q = Q (some (vI z1)) X := w_ireti (by rfl) (by rfl)
theorem s144_48 {l0 l1 l2 : Value} {z1 : Int} : WP d 144 48 [l0, l1, l2, vI z1] (st) X Q = WP d 144 49 [l0, l1, l2, vI z1] (vI z1 :: st) X Q := w_iload_n (by rfl) rfl
theorem s144_49 {l0 l1 l2 l3 : Value}  : WP d 144 49 [l0, l1, l2, l3] (st) X Q = WP d 144 50 [l0, l1, l2, l3] (vI (4) :: st) X Q := w_iconst (by rfl)
theorem s144_50 {l0 l1 l2 l3 : Value} {z1 : Int} {z2 : Int} (h1 : -2147483648 ≤ z1 ∧ z1 ≤ 2147483647) (h2 : -2147483648 ≤ z2 ∧ z2 ≤ 2147483647) : WP d 144 50 [l0, l1, l2, l3] (vI z2 :: vI z1 :: st) X Q = if z2 < z1 then WP d 144 53 [l0, l1, l2, l3] (st) X Q else WP d 144 57 [l0, l1, l2, l3] (st) X Q := w_icmple (by rfl) (by decide) h1 h2
theorem s144_53 {l0 l1 l2 l3 : Value}  : WP d 144 53 [l0, l1, l2, l3] (st) X Q = WP d 144 54 [l0, l1, l2, l3] (vI (4) :: st) X Q := w_iconst (by rfl)
theorem s144_54 {l0 l1 l2 l3 : Value}  : WP d 144 54 [l0, l1, l2, l3] (st) X Q = WP d 144 58 [l0, l1, l2, l3] (st) X Q := w_goto (by rfl) (by decide)
theorem s144_57 {l0 l1 l2 : Value} {z1 : Int} : WP d 144 57 [l0, l1, l2, vI z1] (st) X Q = WP d 144 58 [l0, l1, l2, vI z1] (vI z1 :: st) X Q := w_iload_n (by rfl) rfl
theorem s144_58 {l0 l1 l2 l3 : Value} {z1 : Int} : WP d 144 58 [l0, l1, l2, l3] (vI z1 :: []) X Q = Q (some (vI z1)) X := w_ireti (by rfl) (by rfl)
theorem s144_59 {l0 l1 l2 l3 : Value}  : WP d 144 59 [l0, l1, l2, l3] (st) X Q = WP d 144 60 [l0, l1, l2, l3] (vI (0) :: st) X Q := w_iconst (by rfl)
theorem s144_60 {l0 l1 l2 l3 : Value} {z1 : Int} : WP d 144 60 [l0, l1, l2, l3] (vI z1 :: []) X Q = Q (some (vI z1)) X := w_ireti (by rfl) (by rfl)
theorem s144_61 {l0 l1 l2 : Value} {z1 : Int} : WP d 144 61 [l0, l1, l2, vI z1] (st) X Q = WP d 144 62 [l0, l1, l2, vI z1] (vI z1 :: st) X Q := w_iload_n (by rfl) rfl
theorem s144_62 {l0 l1 l2 l3 : Value}  : WP d 144 62 [l0, l1, l2, l3] (st) X Q = WP d 144 63 [l0, l1, l2, l3] (vI (2) :: st) X Q := w_iconst (by rfl)
theorem s144_63 {l0 l1 l2 l3 : Value} {z1 : Int} {z2 : Int} (h1 : 0 ≤ z1 ∧ z1 ≤ 2147483647) (h2 : 0 < z2 ∧ z2 ≤ 2147483647) : WP d 144 63 [l0, l1, l2, l3] (vI z2 :: vI z1 :: st) X Q = WP d 144 64 [l0, l1, l2, l3] (vI (z1 / z2) :: st) X Q := w_idiv (by rfl) h1 h2
theorem s144_64 {l1 l2 l3 : Value}  : WP d 144 64 [.ref 82, l1, l2, l3] (st) X Q = WP d 144 65 [.ref 82, l1, l2, l3] (.ref 82 :: st) X Q := w_aload_n (by rfl) rfl (by decide)
theorem s144_65 {l0 l1 l2 l3 : Value} (hN : 82 < N) : WP d 144 65 [l0, l1, l2, l3] (.ref 82 :: st) (N, L, M) Q = WP d 144 68 [l0, l1, l2, l3] (M 82 4 :: st) (N, L, M) Q := w_getf (by rfl) (by rfl) hN (by decide) (by rfl)
theorem s144_68 {l0 l2 l3 : Value} {z1 : Int} : WP d 144 68 [l0, vI z1, l2, l3] (st) X Q = WP d 144 69 [l0, vI z1, l2, l3] (vI z1 :: st) X Q := w_iload_n (by rfl) rfl
theorem s144_69 {l0 l1 l2 l3 : Value} {j1 : Int} (hj : 0 ≤ j1 ∧ j1 < 6) (hN : 84 < N) : WP d 144 69 [l0, l1, l2, l3] (vI j1 :: .ref 84 :: st) (N, L, M) Q = WP d 144 70 [l0, l1, l2, l3] (M 84 j1.toNat :: st) (N, L, M) Q := w_iald (by rfl) (m := 6) (by rfl) hN (by decide) hj (by decide)
theorem s144_70 {l0 l1 l2 l3 : Value} {z1 : Int} {z2 : Int} : WP d 144 70 [l0, l1, l2, l3] (vI z2 :: vI z1 :: st) X Q = WP d 144 71 [l0, l1, l2, l3] (vI (z1 + z2) :: st) X Q := w_iadd (by rfl)
theorem s144_71 {l0 l1 l2 l3 : Value} {z1 : Int} : WP d 144 71 [l0, l1, l2, l3] (vI z1 :: []) X Q = Q (some (vI z1)) X := w_ireti (by rfl) (by rfl)
theorem s144_72 {l0 l1 l2 : Value} {z1 : Int} : WP d 144 72 [l0, l1, l2, vI z1] (st) X Q = WP d 144 73 [l0, l1, l2, vI z1] (vI z1 :: st) X Q := w_iload_n (by rfl) rfl
theorem s144_73 {l0 l1 l2 l3 : Value} {z1 : Int} : WP d 144 73 [l0, l1, l2, l3] (vI z1 :: []) X Q = Q (some (vI z1)) X := w_ireti (by rfl) (by rfl)
/-! 145 BellsThatEatModel.hunger -/
theorem e145 {d : Nat} {X : q_H} {z1 : Int} {r : Option Value} {X' : q_H} (hd : 1 ≤ d) (h : WP (d - 1) 145 0 [.ref 82, vI z1, .null] [] X (fun r1 X1 => r1 = r ∧ X1 = X')) : Sp d 145 [.ref 82, vI z1] X r X' := Sp.of1 hd (vs := [.ref 82, vI z1]) (ls := [.ref 82, vI z1, .null]) (by rfl) (by rfl) h
theorem E145 {d : Nat} {X : q_H} {z1 : Int} {Q : Option Value → q_H → Prop} (hd : 1 ≤ d) (h : WP (d - 1) 145 0 [.ref 82, vI z1, .null] [] X Q) : ∃ r X', Sp d 145 [.ref 82, vI z1] X r X' ∧ Q r X' := Sp.of2 hd (vs := [.ref 82, vI z1]) (ls := [.ref 82, vI z1, .null]) (by rfl) (by rfl) h
theorem s145_0 {l0 l1 l2 : Value}  : WP d 145 0 [l0, l1, l2] (st) X Q = WP d 145 1 [l0, l1, l2] (vI (2) :: st) X Q := w_iconst (by rfl)
theorem s145_1 {l1 l2 : Value}  : WP d 145 1 [.ref 82, l1, l2] (st) X Q = WP d 145 2 [.ref 82, l1, l2] (.ref 82 :: st) X Q := w_aload_n (by rfl) rfl (by decide)
theorem s145_2 {l0 l1 l2 : Value} (hN : 82 < N) : WP d 145 2 [l0, l1, l2] (.ref 82 :: st) (N, L, M) Q = WP d 145 5 [l0, l1, l2] (M 82 4 :: st) (N, L, M) Q := w_getf (by rfl) (by rfl) hN (by decide) (by rfl)
theorem s145_5 {l0 l2 : Value} {z1 : Int} : WP d 145 5 [l0, vI z1, l2] (st) X Q = WP d 145 6 [l0, vI z1, l2] (vI z1 :: st) X Q := w_iload_n (by rfl) rfl
theorem s145_6 {l0 l1 l2 : Value} {j1 : Int} (hj : 0 ≤ j1 ∧ j1 < 6) (hN : 84 < N) : WP d 145 6 [l0, l1, l2] (vI j1 :: .ref 84 :: st) (N, L, M) Q = WP d 145 7 [l0, l1, l2] (M 84 j1.toNat :: st) (N, L, M) Q := w_iald (by rfl) (m := 6) (by rfl) hN (by decide) hj (by decide)
theorem s145_7 {l0 l1 l2 : Value}  : WP d 145 7 [l0, l1, l2] (st) X Q = WP d 145 8 [l0, l1, l2] (vI (3) :: st) X Q := w_iconst (by rfl)
theorem s145_8 {l0 l1 l2 : Value} {z1 : Int} {z2 : Int} (h1 : 0 ≤ z1 ∧ z1 ≤ 2147483647) (h2 : 0 < z2 ∧ z2 ≤ 2147483647) : WP d 145 8 [l0, l1, l2] (vI z2 :: vI z1 :: st) X Q = WP d 145 9 [l0, l1, l2] (vI (z1 / z2) :: st) X Q := w_idiv (by rfl) h1 h2
theorem s145_9 {l0 l1 l2 : Value} {z1 : Int} {z2 : Int} : WP d 145 9 [l0, l1, l2] (vI z2 :: vI z1 :: st) X Q = WP d 145 10 [l0, l1, l2] (vI (z1 + z2) :: st) X Q := w_iadd (by rfl)
theorem s145_10 {l0 l2 : Value} {z1 : Int} {z2 : Int} : WP d 145 10 [l0, vI z1, l2] (vI z2 :: st) X Q = WP d 145 11 [l0, vI z1, vI z2] (st) X Q := w_istore_n (by rfl) (q_okb_s rfl rfl) (Nat.le_of_ble_eq_true rfl) rfl
theorem s145_11 {l1 l2 : Value}  : WP d 145 11 [.ref 82, l1, l2] (st) X Q = WP d 145 12 [.ref 82, l1, l2] (.ref 82 :: st) X Q := w_aload_n (by rfl) rfl (by decide)
theorem s145_12 {l0 l1 l2 : Value} (hN : 82 < N) : WP d 145 12 [l0, l1, l2] (.ref 82 :: st) (N, L, M) Q = WP d 145 15 [l0, l1, l2] (M 82 3 :: st) (N, L, M) Q := w_getf (by rfl) (by rfl) hN (by decide) (by rfl)
theorem s145_15 {l0 l2 : Value} {z1 : Int} : WP d 145 15 [l0, vI z1, l2] (st) X Q = WP d 145 16 [l0, vI z1, l2] (vI z1 :: st) X Q := w_iload_n (by rfl) rfl
theorem s145_16 {l0 l1 l2 : Value} {j1 : Int} (hj : 0 ≤ j1 ∧ j1 < 6) (hN : 83 < N) : WP d 145 16 [l0, l1, l2] (vI j1 :: .ref 83 :: st) (N, L, M) Q = WP d 145 17 [l0, l1, l2] (M 83 j1.toNat :: st) (N, L, M) Q := w_iald (by rfl) (m := 6) (by rfl) hN (by decide) hj (by decide)
theorem s145_17 {l0 l1 l2 : Value} {z1 : Int} (h1 : -2147483648 ≤ z1 ∧ z1 ≤ 2147483647) : WP d 145 17 [l0, l1, l2] (vI z1 :: st) X Q = if z1 = 1 then WP d 145 56 [l0, l1, l2] (st) X Q else if z1 = 2 then WP d 145 60 [l0, l1, l2] (st) X Q else if z1 = 3 then WP d 145 62 [l0, l1, l2] (st) X Q else if z1 = 4 then WP d 145 56 [l0, l1, l2] (st) X Q else if z1 = 5 then WP d 145 66 [l0, l1, l2] (st) X Q else if z1 = 6 then WP d 145 68 [l0, l1, l2] (st) X Q else WP d 145 88 [l0, l1, l2] (st) X Q := by
  by_cases e0 : z1 = 1
  · subst e0; rw [if_pos rfl]; exact w_tsw (by rfl) (by decide) (by decide) rfl (by decide)
  rw [if_neg e0]
  by_cases e1 : z1 = 2
  · subst e1; rw [if_pos rfl]; exact w_tsw (by rfl) (by decide) (by decide) rfl (by decide)
  rw [if_neg e1]
  by_cases e2 : z1 = 3
  · subst e2; rw [if_pos rfl]; exact w_tsw (by rfl) (by decide) (by decide) rfl (by decide)
  rw [if_neg e2]
  by_cases e3 : z1 = 4
  · subst e3; rw [if_pos rfl]; exact w_tsw (by rfl) (by decide) (by decide) rfl (by decide)
  rw [if_neg e3]
  by_cases e4 : z1 = 5
  · subst e4; rw [if_pos rfl]; exact w_tsw (by rfl) (by decide) (by decide) rfl (by decide)
  rw [if_neg e4]
  by_cases e5 : z1 = 6
  · subst e5; rw [if_pos rfl]; exact w_tsw (by rfl) (by decide) (by decide) rfl (by decide)
  rw [if_neg e5]
  exact w_tswd (by rfl) h1 (by omega) (by decide)
theorem s145_56 {l0 l1 l2 : Value}  : WP d 145 56 [l0, l1, l2] (st) X Q = WP d 145 57 [l0, l1, l2] (vI (2) :: st) X Q := w_iconst (by rfl)
theorem s145_57 {l0 l1 : Value} {z1 : Int} : WP d 145 57 [l0, l1, vI z1] (st) X Q = WP d 145 58 [l0, l1, vI z1] (vI z1 :: st) X Q := w_iload_n (by rfl) rfl
theorem s145_58 {l0 l1 l2 : Value} {z1 : Int} {z2 : Int} : WP d 145 58 [l0, l1, l2] (vI z2 :: vI z1 :: st) X Q = WP d 145 59 [l0, l1, l2] (vI (z1 * z2) :: st) X Q := w_imul (by rfl)
theorem s145_59 {l0 l1 l2 : Value} {z1 : Int} : WP d 145 59 [l0, l1, l2] (vI z1 :: []) X Q = Q (some (vI z1)) X := w_ireti (by rfl) (by rfl)
theorem s145_60 {l0 l1 l2 : Value}  : WP d 145 60 [l0, l1, l2] (st) X Q = WP d 145 61 [l0, l1, l2] (vI (1) :: st) X Q := w_iconst (by rfl)
theorem s145_61 {l0 l1 l2 : Value} {z1 : Int} : WP d 145 61 [l0, l1, l2] (vI z1 :: []) X Q = Q (some (vI z1)) X := w_ireti (by rfl) (by rfl)
theorem s145_62 {l0 l1 : Value} {z1 : Int} : WP d 145 62 [l0, l1, vI z1] (st) X Q = WP d 145 63 [l0, l1, vI z1] (vI z1 :: st) X Q := w_iload_n (by rfl) rfl
theorem s145_63 {l0 l1 l2 : Value}  : WP d 145 63 [l0, l1, l2] (st) X Q = WP d 145 64 [l0, l1, l2] (vI (1) :: st) X Q := w_iconst (by rfl)
theorem s145_64 {l0 l1 l2 : Value} {z1 : Int} {z2 : Int} : WP d 145 64 [l0, l1, l2] (vI z2 :: vI z1 :: st) X Q = WP d 145 65 [l0, l1, l2] (vI (z1 - z2) :: st) X Q := w_isub (by rfl)
theorem s145_65 {l0 l1 l2 : Value} {z1 : Int} : WP d 145 65 [l0, l1, l2] (vI z1 :: []) X Q = Q (some (vI z1)) X := w_ireti (by rfl) (by rfl)
theorem s145_66 {l0 l1 l2 : Value}  : WP d 145 66 [l0, l1, l2] (st) X Q = WP d 145 67 [l0, l1, l2] (vI (0) :: st) X Q := w_iconst (by rfl)
theorem s145_67 {l0 l1 l2 : Value} {z1 : Int} : WP d 145 67 [l0, l1, l2] (vI z1 :: []) X Q = Q (some (vI z1)) X := w_ireti (by rfl) (by rfl)
theorem s145_68 {l0 l1 : Value} {z1 : Int} : WP d 145 68 [l0, l1, vI z1] (st) X Q = WP d 145 69 [l0, l1, vI z1] (vI z1 :: st) X Q := w_iload_n (by rfl) rfl
theorem s145_69 {l0 l1 l2 : Value}  : WP d 145 69 [l0, l1, l2] (st) X Q = WP d 145 70 [l0, l1, l2] (vI (1) :: st) X Q := w_iconst (by rfl)
theorem s145_70 {l0 l1 l2 : Value} {z1 : Int} {z2 : Int} : WP d 145 70 [l0, l1, l2] (vI z2 :: vI z1 :: st) X Q = WP d 145 71 [l0, l1, l2] (vI (z1 - z2) :: st) X Q := w_isub (by rfl)
theorem s145_71 {l1 l2 : Value}  : WP d 145 71 [.ref 82, l1, l2] (st) X Q = WP d 145 72 [.ref 82, l1, l2] (.ref 82 :: st) X Q := w_aload_n (by rfl) rfl (by decide)
theorem s145_72 {l0 l1 l2 : Value} (hN : 82 < N) : WP d 145 72 [l0, l1, l2] (.ref 82 :: st) (N, L, M) Q = WP d 145 75 [l0, l1, l2] (M 82 6 :: st) (N, L, M) Q := w_getf (by rfl) (by rfl) hN (by decide) (by rfl)
theorem s145_75 {l0 l1 l2 : Value}  : WP d 145 75 [l0, l1, l2] (st) X Q = WP d 145 76 [l0, l1, l2] (vI (4) :: st) X Q := w_iconst (by rfl)
theorem s145_76 {l0 l2 : Value} {z1 : Int} : WP d 145 76 [l0, vI z1, l2] (st) X Q = WP d 145 77 [l0, vI z1, l2] (vI z1 :: st) X Q := w_iload_n (by rfl) rfl
theorem s145_77 {l0 l1 l2 : Value} {z1 : Int} {z2 : Int} : WP d 145 77 [l0, l1, l2] (vI z2 :: vI z1 :: st) X Q = WP d 145 78 [l0, l1, l2] (vI (z1 * z2) :: st) X Q := w_imul (by rfl)
theorem s145_78 {l1 l2 : Value}  : WP d 145 78 [.ref 82, l1, l2] (st) X Q = WP d 145 79 [.ref 82, l1, l2] (.ref 82 :: st) X Q := w_aload_n (by rfl) rfl (by decide)
theorem s145_79 {l0 l1 l2 : Value} (hN : 82 < N) : WP d 145 79 [l0, l1, l2] (.ref 82 :: st) (N, L, M) Q = WP d 145 82 [l0, l1, l2] (M 82 1 :: st) (N, L, M) Q := w_getf (by rfl) (by rfl) hN (by decide) (by rfl)
theorem s145_82 {l0 l1 l2 : Value}  : WP d 145 82 [l0, l1, l2] (st) X Q = WP d 145 83 [l0, l1, l2] (vI (4) :: st) X Q := w_iconst (by rfl)
theorem s145_83 {l0 l1 l2 : Value} {z1 : Int} {z2 : Int} (h1 : 0 ≤ z1 ∧ z1 ≤ 2147483647) (h2 : 0 < z2 ∧ z2 ≤ 2147483647) : WP d 145 83 [l0, l1, l2] (vI z2 :: vI z1 :: st) X Q = WP d 145 84 [l0, l1, l2] (vI (z1 % z2) :: st) X Q := w_irem (by rfl) h1 h2
theorem s145_84 {l0 l1 l2 : Value} {z1 : Int} {z2 : Int} : WP d 145 84 [l0, l1, l2] (vI z2 :: vI z1 :: st) X Q = WP d 145 85 [l0, l1, l2] (vI (z1 + z2) :: st) X Q := w_iadd (by rfl)
theorem s145_85 {l0 l1 l2 : Value} {j1 : Int} (hj : 0 ≤ j1 ∧ j1 < 24) (hN : 86 < N) : WP d 145 85 [l0, l1, l2] (vI j1 :: .ref 86 :: st) (N, L, M) Q = WP d 145 86 [l0, l1, l2] (M 86 j1.toNat :: st) (N, L, M) Q := w_iald (by rfl) (m := 24) (by rfl) hN (by decide) hj (by decide)
theorem s145_86 {l0 l1 l2 : Value} {z1 : Int} {z2 : Int} : WP d 145 86 [l0, l1, l2] (vI z2 :: vI z1 :: st) X Q = WP d 145 87 [l0, l1, l2] (vI (z1 + z2) :: st) X Q := w_iadd (by rfl)
theorem s145_87 {l0 l1 l2 : Value} {z1 : Int} : WP d 145 87 [l0, l1, l2] (vI z1 :: []) X Q = Q (some (vI z1)) X := w_ireti (by rfl) (by rfl)
theorem s145_88 {l0 l1 : Value} {z1 : Int} : WP d 145 88 [l0, l1, vI z1] (st) X Q = WP d 145 89 [l0, l1, vI z1] (vI z1 :: st) X Q := w_iload_n (by rfl) rfl
theorem s145_89 {l0 l1 l2 : Value} {z1 : Int} : WP d 145 89 [l0, l1, l2] (vI z1 :: []) X Q = Q (some (vI z1)) X := w_ireti (by rfl) (by rfl)
/-! 146 BellsThatEatModel.note -/
theorem e146 {d : Nat} {X : q_H} {z1 : Int} {r : Option Value} {X' : q_H} (hd : 1 ≤ d) (h : WP (d - 1) 146 0 [.ref 82, vI z1] [] X (fun r1 X1 => r1 = r ∧ X1 = X')) : Sp d 146 [.ref 82, vI z1] X r X' := Sp.of1 hd (vs := [.ref 82, vI z1]) (ls := [.ref 82, vI z1]) (by rfl) (by rfl) h
theorem E146 {d : Nat} {X : q_H} {z1 : Int} {Q : Option Value → q_H → Prop} (hd : 1 ≤ d) (h : WP (d - 1) 146 0 [.ref 82, vI z1] [] X Q) : ∃ r X', Sp d 146 [.ref 82, vI z1] X r X' ∧ Q r X' := Sp.of2 hd (vs := [.ref 82, vI z1]) (ls := [.ref 82, vI z1]) (by rfl) (by rfl) h
theorem s146_0 {l1 : Value}  : WP d 146 0 [.ref 82, l1] (st) X Q = WP d 146 1 [.ref 82, l1] (.ref 82 :: st) X Q := w_aload_n (by rfl) rfl (by decide)
theorem s146_1 {l0 l1 : Value} (hN : 82 < N) : WP d 146 1 [l0, l1] (.ref 82 :: st) (N, L, M) Q = WP d 146 4 [l0, l1] (M 82 3 :: st) (N, L, M) Q := w_getf (by rfl) (by rfl) hN (by decide) (by rfl)
theorem s146_4 {l0 : Value} {z1 : Int} : WP d 146 4 [l0, vI z1] (st) X Q = WP d 146 5 [l0, vI z1] (vI z1 :: st) X Q := w_iload_n (by rfl) rfl
theorem s146_5 {l0 l1 : Value} {j1 : Int} (hj : 0 ≤ j1 ∧ j1 < 6) (hN : 83 < N) : WP d 146 5 [l0, l1] (vI j1 :: .ref 83 :: st) (N, L, M) Q = WP d 146 6 [l0, l1] (M 83 j1.toNat :: st) (N, L, M) Q := w_iald (by rfl) (m := 6) (by rfl) hN (by decide) hj (by decide)
theorem s146_6 {l0 l1 : Value} {z1 : Int} (h1 : -2147483648 ≤ z1 ∧ z1 ≤ 2147483647) : WP d 146 6 [l0, l1] (vI z1 :: st) X Q = if z1 = 1 then WP d 146 44 [l0, l1] (st) X Q else if z1 = 2 then WP d 146 54 [l0, l1] (st) X Q else if z1 = 3 then WP d 146 57 [l0, l1] (st) X Q else if z1 = 4 then WP d 146 60 [l0, l1] (st) X Q else if z1 = 5 then WP d 146 70 [l0, l1] (st) X Q else if z1 = 6 then WP d 146 80 [l0, l1] (st) X Q else WP d 146 90 [l0, l1] (st) X Q := by
  by_cases e0 : z1 = 1
  · subst e0; rw [if_pos rfl]; exact w_tsw (by rfl) (by decide) (by decide) rfl (by decide)
  rw [if_neg e0]
  by_cases e1 : z1 = 2
  · subst e1; rw [if_pos rfl]; exact w_tsw (by rfl) (by decide) (by decide) rfl (by decide)
  rw [if_neg e1]
  by_cases e2 : z1 = 3
  · subst e2; rw [if_pos rfl]; exact w_tsw (by rfl) (by decide) (by decide) rfl (by decide)
  rw [if_neg e2]
  by_cases e3 : z1 = 4
  · subst e3; rw [if_pos rfl]; exact w_tsw (by rfl) (by decide) (by decide) rfl (by decide)
  rw [if_neg e3]
  by_cases e4 : z1 = 5
  · subst e4; rw [if_pos rfl]; exact w_tsw (by rfl) (by decide) (by decide) rfl (by decide)
  rw [if_neg e4]
  by_cases e5 : z1 = 6
  · subst e5; rw [if_pos rfl]; exact w_tsw (by rfl) (by decide) (by decide) rfl (by decide)
  rw [if_neg e5]
  exact w_tswd (by rfl) h1 (by omega) (by decide)
theorem s146_44 {l0 l1 : Value}  : WP d 146 44 [l0, l1] (st) X Q = WP d 146 46 [l0, l1] (vI (60) :: st) X Q := w_bipush (by rfl) (by decide)
theorem s146_46 {l1 : Value}  : WP d 146 46 [.ref 82, l1] (st) X Q = WP d 146 47 [.ref 82, l1] (.ref 82 :: st) X Q := w_aload_n (by rfl) rfl (by decide)
theorem s146_47 {l0 l1 : Value} (hN : 82 < N) : WP d 146 47 [l0, l1] (.ref 82 :: st) (N, L, M) Q = WP d 146 50 [l0, l1] (M 82 4 :: st) (N, L, M) Q := w_getf (by rfl) (by rfl) hN (by decide) (by rfl)
theorem s146_50 {l0 : Value} {z1 : Int} : WP d 146 50 [l0, vI z1] (st) X Q = WP d 146 51 [l0, vI z1] (vI z1 :: st) X Q := w_iload_n (by rfl) rfl
theorem s146_51 {l0 l1 : Value} {j1 : Int} (hj : 0 ≤ j1 ∧ j1 < 6) (hN : 84 < N) : WP d 146 51 [l0, l1] (vI j1 :: .ref 84 :: st) (N, L, M) Q = WP d 146 52 [l0, l1] (M 84 j1.toNat :: st) (N, L, M) Q := w_iald (by rfl) (m := 6) (by rfl) hN (by decide) hj (by decide)
theorem s146_52 {l0 l1 : Value} {z1 : Int} {z2 : Int} : WP d 146 52 [l0, l1] (vI z2 :: vI z1 :: st) X Q = WP d 146 53 [l0, l1] (vI (z1 + z2) :: st) X Q := w_iadd (by rfl)
theorem s146_53 {l0 l1 : Value} {z1 : Int} : WP d 146 53 [l0, l1] (vI z1 :: []) X Q = Q (some (vI z1)) X := w_ireti (by rfl) (by rfl)
theorem s146_54 {l0 l1 : Value}  : WP d 146 54 [l0, l1] (st) X Q = WP d 146 56 [l0, l1] (vI (80) :: st) X Q := w_bipush (by rfl) (by decide)
theorem s146_56 {l0 l1 : Value} {z1 : Int} : WP d 146 56 [l0, l1] (vI z1 :: []) X Q = Q (some (vI z1)) X := w_ireti (by rfl) (by rfl)
theorem s146_57 {l0 l1 : Value}  : WP d 146 57 [l0, l1] (st) X Q = WP d 146 59 [l0, l1] (vI (30) :: st) X Q := w_bipush (by rfl) (by decide)
theorem s146_59 {l0 l1 : Value} {z1 : Int} : WP d 146 59 [l0, l1] (vI z1 :: []) X Q = Q (some (vI z1)) X := w_ireti (by rfl) (by rfl)
theorem s146_60 {l0 l1 : Value}  : WP d 146 60 [l0, l1] (st) X Q = WP d 146 62 [l0, l1] (vI (40) :: st) X Q := w_bipush (by rfl) (by decide)
theorem s146_62 {l1 : Value}  : WP d 146 62 [.ref 82, l1] (st) X Q = WP d 146 63 [.ref 82, l1] (.ref 82 :: st) X Q := w_aload_n (by rfl) rfl (by decide)
theorem s146_63 {l0 l1 : Value} (hN : 82 < N) : WP d 146 63 [l0, l1] (.ref 82 :: st) (N, L, M) Q = WP d 146 66 [l0, l1] (M 82 4 :: st) (N, L, M) Q := w_getf (by rfl) (by rfl) hN (by decide) (by rfl)
theorem s146_66 {l0 : Value} {z1 : Int} : WP d 146 66 [l0, vI z1] (st) X Q = WP d 146 67 [l0, vI z1] (vI z1 :: st) X Q := w_iload_n (by rfl) rfl
theorem s146_67 {l0 l1 : Value} {j1 : Int} (hj : 0 ≤ j1 ∧ j1 < 6) (hN : 84 < N) : WP d 146 67 [l0, l1] (vI j1 :: .ref 84 :: st) (N, L, M) Q = WP d 146 68 [l0, l1] (M 84 j1.toNat :: st) (N, L, M) Q := w_iald (by rfl) (m := 6) (by rfl) hN (by decide) hj (by decide)
theorem s146_68 {l0 l1 : Value} {z1 : Int} {z2 : Int} : WP d 146 68 [l0, l1] (vI z2 :: vI z1 :: st) X Q = WP d 146 69 [l0, l1] (vI (z1 + z2) :: st) X Q := w_iadd (by rfl)
theorem s146_69 {l0 l1 : Value} {z1 : Int} : WP d 146 69 [l0, l1] (vI z1 :: []) X Q = Q (some (vI z1)) X := w_ireti (by rfl) (by rfl)
theorem s146_70 {l0 l1 : Value}  : WP d 146 70 [l0, l1] (st) X Q = WP d 146 72 [l0, l1] (vI (80) :: st) X Q := w_bipush (by rfl) (by decide)
theorem s146_72 {l1 : Value}  : WP d 146 72 [.ref 82, l1] (st) X Q = WP d 146 73 [.ref 82, l1] (.ref 82 :: st) X Q := w_aload_n (by rfl) rfl (by decide)
theorem s146_73 {l0 l1 : Value} (hN : 82 < N) : WP d 146 73 [l0, l1] (.ref 82 :: st) (N, L, M) Q = WP d 146 76 [l0, l1] (M 82 4 :: st) (N, L, M) Q := w_getf (by rfl) (by rfl) hN (by decide) (by rfl)
theorem s146_76 {l0 : Value} {z1 : Int} : WP d 146 76 [l0, vI z1] (st) X Q = WP d 146 77 [l0, vI z1] (vI z1 :: st) X Q := w_iload_n (by rfl) rfl
theorem s146_77 {l0 l1 : Value} {j1 : Int} (hj : 0 ≤ j1 ∧ j1 < 6) (hN : 84 < N) : WP d 146 77 [l0, l1] (vI j1 :: .ref 84 :: st) (N, L, M) Q = WP d 146 78 [l0, l1] (M 84 j1.toNat :: st) (N, L, M) Q := w_iald (by rfl) (m := 6) (by rfl) hN (by decide) hj (by decide)
theorem s146_78 {l0 l1 : Value} {z1 : Int} {z2 : Int} : WP d 146 78 [l0, l1] (vI z2 :: vI z1 :: st) X Q = WP d 146 79 [l0, l1] (vI (z1 - z2) :: st) X Q := w_isub (by rfl)
theorem s146_79 {l0 l1 : Value} {z1 : Int} : WP d 146 79 [l0, l1] (vI z1 :: []) X Q = Q (some (vI z1)) X := w_ireti (by rfl) (by rfl)
theorem s146_80 {l0 l1 : Value}  : WP d 146 80 [l0, l1] (st) X Q = WP d 146 82 [l0, l1] (vI (30) :: st) X Q := w_bipush (by rfl) (by decide)
theorem s146_82 {l1 : Value}  : WP d 146 82 [.ref 82, l1] (st) X Q = WP d 146 83 [.ref 82, l1] (.ref 82 :: st) X Q := w_aload_n (by rfl) rfl (by decide)
theorem s146_83 {l0 l1 : Value} (hN : 82 < N) : WP d 146 83 [l0, l1] (.ref 82 :: st) (N, L, M) Q = WP d 146 86 [l0, l1] (M 82 4 :: st) (N, L, M) Q := w_getf (by rfl) (by rfl) hN (by decide) (by rfl)
theorem s146_86 {l0 : Value} {z1 : Int} : WP d 146 86 [l0, vI z1] (st) X Q = WP d 146 87 [l0, vI z1] (vI z1 :: st) X Q := w_iload_n (by rfl) rfl
theorem s146_87 {l0 l1 : Value} {j1 : Int} (hj : 0 ≤ j1 ∧ j1 < 6) (hN : 84 < N) : WP d 146 87 [l0, l1] (vI j1 :: .ref 84 :: st) (N, L, M) Q = WP d 146 88 [l0, l1] (M 84 j1.toNat :: st) (N, L, M) Q := w_iald (by rfl) (m := 6) (by rfl) hN (by decide) hj (by decide)
theorem s146_88 {l0 l1 : Value} {z1 : Int} {z2 : Int} : WP d 146 88 [l0, l1] (vI z2 :: vI z1 :: st) X Q = WP d 146 89 [l0, l1] (vI (z1 + z2) :: st) X Q := w_iadd (by rfl)
theorem s146_89 {l0 l1 : Value} {z1 : Int} : WP d 146 89 [l0, l1] (vI z1 :: []) X Q = Q (some (vI z1)) X := w_ireti (by rfl) (by rfl)
theorem s146_90 {l0 l1 : Value}  : WP d 146 90 [l0, l1] (st) X Q = WP d 146 92 [l0, l1] (vI (50) :: st) X Q := w_bipush (by rfl) (by decide)
theorem s146_92 {l0 l1 : Value} {z1 : Int} : WP d 146 92 [l0, l1] (vI z1 :: []) X Q = Q (some (vI z1)) X := w_ireti (by rfl) (by rfl)
/-! 147 BellsThatEatModel.off -/
theorem e147 {d : Nat} {X : q_H} {z1 : Int} {r : Option Value} {X' : q_H} (hd : 1 ≤ d) (h : WP (d - 1) 147 0 [.ref 82, vI z1] [] X (fun r1 X1 => r1 = r ∧ X1 = X')) : Sp d 147 [.ref 82, vI z1] X r X' := Sp.of1 hd (vs := [.ref 82, vI z1]) (ls := [.ref 82, vI z1]) (by rfl) (by rfl) h
theorem E147 {d : Nat} {X : q_H} {z1 : Int} {Q : Option Value → q_H → Prop} (hd : 1 ≤ d) (h : WP (d - 1) 147 0 [.ref 82, vI z1] [] X Q) : ∃ r X', Sp d 147 [.ref 82, vI z1] X r X' ∧ Q r X' := Sp.of2 hd (vs := [.ref 82, vI z1]) (ls := [.ref 82, vI z1]) (by rfl) (by rfl) h
theorem s147_0 {l1 : Value}  : WP d 147 0 [.ref 82, l1] (st) X Q = WP d 147 1 [.ref 82, l1] (.ref 82 :: st) X Q := w_aload_n (by rfl) rfl (by decide)
theorem s147_1 {l0 l1 : Value} (hN : 82 < N) : WP d 147 1 [l0, l1] (.ref 82 :: st) (N, L, M) Q = WP d 147 4 [l0, l1] (M 82 5 :: st) (N, L, M) Q := w_getf (by rfl) (by rfl) hN (by decide) (by rfl)
theorem s147_4 {l0 : Value} {z1 : Int} : WP d 147 4 [l0, vI z1] (st) X Q = WP d 147 5 [l0, vI z1] (vI z1 :: st) X Q := w_iload_n (by rfl) rfl
theorem s147_5 {l0 l1 : Value} {j1 : Int} (hj : 0 ≤ j1 ∧ j1 < 6) (hN : 85 < N) : WP d 147 5 [l0, l1] (vI j1 :: .ref 85 :: st) (N, L, M) Q = WP d 147 6 [l0, l1] (M 85 j1.toNat :: st) (N, L, M) Q := w_iald (by rfl) (m := 6) (by rfl) hN (by decide) hj (by decide)
theorem s147_6 {l1 : Value}  : WP d 147 6 [.ref 82, l1] (st) X Q = WP d 147 7 [.ref 82, l1] (.ref 82 :: st) X Q := w_aload_n (by rfl) rfl (by decide)
theorem s147_7 {l0 : Value} {z1 : Int} : WP d 147 7 [l0, vI z1] (st) X Q = WP d 147 8 [l0, vI z1] (vI z1 :: st) X Q := w_iload_n (by rfl) rfl
theorem c147_8 {l0 l1 : Value} {x0 : Value} {z1 : Int} {r : Int} {X' : q_H} (hN : 82 < N) (hS : Sp d 146 [.ref 82, vI z1] (N, L, M) (some (vI r)) X') : WP d 147 8 [l0, l1] (vI z1 :: .ref 82 :: x0 :: []) (N, L, M) Q = WP d 147 11 [l0, l1] (vI r :: x0 :: []) X' Q := w_callv (vs := [vI z1]) (by rfl) (by rfl) rfl (Nat.le_of_ble_eq_true rfl) (kd := 9) (by rfl) (by decide) (Or.inl hN) (by rfl) hS
theorem s147_11 {l0 l1 : Value} {z1 : Int} {z2 : Int} (h1 : -2147483648 ≤ z1 ∧ z1 ≤ 2147483647) (h2 : -2147483648 ≤ z2 ∧ z2 ≤ 2147483647) : WP d 147 11 [l0, l1] (vI z2 :: vI z1 :: st) X Q = if z1 < z2 then WP d 147 14 [l0, l1] (st) X Q else WP d 147 29 [l0, l1] (st) X Q := w_icmpge (by rfl) (by decide) h1 h2
theorem s147_14 {l1 : Value}  : WP d 147 14 [.ref 82, l1] (st) X Q = WP d 147 15 [.ref 82, l1] (.ref 82 :: st) X Q := w_aload_n (by rfl) rfl (by decide)
theorem s147_15 {l0 : Value} {z1 : Int} : WP d 147 15 [l0, vI z1] (st) X Q = WP d 147 16 [l0, vI z1] (vI z1 :: st) X Q := w_iload_n (by rfl) rfl
theorem c147_16 {l0 l1 : Value} {z1 : Int} {r : Int} {X' : q_H} (hN : 82 < N) (hS : Sp d 146 [.ref 82, vI z1] (N, L, M) (some (vI r)) X') : WP d 147 16 [l0, l1] (vI z1 :: .ref 82 :: []) (N, L, M) Q = WP d 147 19 [l0, l1] (vI r :: []) X' Q := w_callv (vs := [vI z1]) (by rfl) (by rfl) rfl (Nat.le_of_ble_eq_true rfl) (kd := 9) (by rfl) (by decide) (Or.inl hN) (by rfl) hS
theorem s147_19 {l1 : Value}  : WP d 147 19 [.ref 82, l1] (st) X Q = WP d 147 20 [.ref 82, l1] (.ref 82 :: st) X Q := w_aload_n (by rfl) rfl (by decide)
theorem s147_20 {l0 l1 : Value} (hN : 82 < N) : WP d 147 20 [l0, l1] (.ref 82 :: st) (N, L, M) Q = WP d 147 23 [l0, l1] (M 82 5 :: st) (N, L, M) Q := w_getf (by rfl) (by rfl) hN (by decide) (by rfl)
theorem s147_23 {l0 : Value} {z1 : Int} : WP d 147 23 [l0, vI z1] (st) X Q = WP d 147 24 [l0, vI z1] (vI z1 :: st) X Q := w_iload_n (by rfl) rfl
theorem s147_24 {l0 l1 : Value} {j1 : Int} (hj : 0 ≤ j1 ∧ j1 < 6) (hN : 85 < N) : WP d 147 24 [l0, l1] (vI j1 :: .ref 85 :: st) (N, L, M) Q = WP d 147 25 [l0, l1] (M 85 j1.toNat :: st) (N, L, M) Q := w_iald (by rfl) (m := 6) (by rfl) hN (by decide) hj (by decide)
theorem s147_25 {l0 l1 : Value} {z1 : Int} {z2 : Int} : WP d 147 25 [l0, l1] (vI z2 :: vI z1 :: st) X Q = WP d 147 26 [l0, l1] (vI (z1 - z2) :: st) X Q := w_isub (by rfl)
theorem s147_26 {l0 l1 : Value}  : WP d 147 26 [l0, l1] (st) X Q = WP d 147 41 [l0, l1] (st) X Q := w_goto (by rfl) (by decide)
theorem s147_29 {l1 : Value}  : WP d 147 29 [.ref 82, l1] (st) X Q = WP d 147 30 [.ref 82, l1] (.ref 82 :: st) X Q := w_aload_n (by rfl) rfl (by decide)
theorem s147_30 {l0 l1 : Value} (hN : 82 < N) : WP d 147 30 [l0, l1] (.ref 82 :: st) (N, L, M) Q = WP d 147 33 [l0, l1] (M 82 5 :: st) (N, L, M) Q := w_getf (by rfl) (by rfl) hN (by decide) (by rfl)
theorem s147_33 {l0 : Value} {z1 : Int} : WP d 147 33 [l0, vI z1] (st) X Q = WP d 147 34 [l0, vI z1] (vI z1 :: st) X Q := w_iload_n (by rfl) rfl
theorem s147_34 {l0 l1 : Value} {j1 : Int} (hj : 0 ≤ j1 ∧ j1 < 6) (hN : 85 < N) : WP d 147 34 [l0, l1] (vI j1 :: .ref 85 :: st) (N, L, M) Q = WP d 147 35 [l0, l1] (M 85 j1.toNat :: st) (N, L, M) Q := w_iald (by rfl) (m := 6) (by rfl) hN (by decide) hj (by decide)
theorem s147_35 {l1 : Value}  : WP d 147 35 [.ref 82, l1] (st) X Q = WP d 147 36 [.ref 82, l1] (.ref 82 :: st) X Q := w_aload_n (by rfl) rfl (by decide)
theorem s147_36 {l0 : Value} {z1 : Int} : WP d 147 36 [l0, vI z1] (st) X Q = WP d 147 37 [l0, vI z1] (vI z1 :: st) X Q := w_iload_n (by rfl) rfl
theorem c147_37 {l0 l1 : Value} {x0 : Value} {z1 : Int} {r : Int} {X' : q_H} (hN : 82 < N) (hS : Sp d 146 [.ref 82, vI z1] (N, L, M) (some (vI r)) X') : WP d 147 37 [l0, l1] (vI z1 :: .ref 82 :: x0 :: []) (N, L, M) Q = WP d 147 40 [l0, l1] (vI r :: x0 :: []) X' Q := w_callv (vs := [vI z1]) (by rfl) (by rfl) rfl (Nat.le_of_ble_eq_true rfl) (kd := 9) (by rfl) (by decide) (Or.inl hN) (by rfl) hS
theorem s147_40 {l0 l1 : Value} {z1 : Int} {z2 : Int} : WP d 147 40 [l0, l1] (vI z2 :: vI z1 :: st) X Q = WP d 147 41 [l0, l1] (vI (z1 - z2) :: st) X Q := w_isub (by rfl)
theorem s147_41 {l0 l1 : Value} {z1 : Int} : WP d 147 41 [l0, l1] (vI z1 :: []) X Q = Q (some (vI z1)) X := w_ireti (by rfl) (by rfl)
/-! 148 BellsThatEatModel.isTuned -/
theorem e148 {d : Nat} {X : q_H} {z1 : Int} {r : Option Value} {X' : q_H} (hd : 1 ≤ d) (h : WP (d - 1) 148 0 [.ref 82, vI z1] [] X (fun r1 X1 => r1 = r ∧ X1 = X')) : Sp d 148 [.ref 82, vI z1] X r X' := Sp.of1 hd (vs := [.ref 82, vI z1]) (ls := [.ref 82, vI z1]) (by rfl) (by rfl) h
theorem E148 {d : Nat} {X : q_H} {z1 : Int} {Q : Option Value → q_H → Prop} (hd : 1 ≤ d) (h : WP (d - 1) 148 0 [.ref 82, vI z1] [] X Q) : ∃ r X', Sp d 148 [.ref 82, vI z1] X r X' ∧ Q r X' := Sp.of2 hd (vs := [.ref 82, vI z1]) (ls := [.ref 82, vI z1]) (by rfl) (by rfl) h
theorem s148_0 {l1 : Value}  : WP d 148 0 [.ref 82, l1] (st) X Q = WP d 148 1 [.ref 82, l1] (.ref 82 :: st) X Q := w_aload_n (by rfl) rfl (by decide)
theorem s148_1 {l0 : Value} {z1 : Int} : WP d 148 1 [l0, vI z1] (st) X Q = WP d 148 2 [l0, vI z1] (vI z1 :: st) X Q := w_iload_n (by rfl) rfl
theorem c148_2 {l0 l1 : Value} {z1 : Int} {r : Int} {X' : q_H} (hN : 82 < N) (hS : Sp d 147 [.ref 82, vI z1] (N, L, M) (some (vI r)) X') : WP d 148 2 [l0, l1] (vI z1 :: .ref 82 :: []) (N, L, M) Q = WP d 148 5 [l0, l1] (vI r :: []) X' Q := w_callv (vs := [vI z1]) (by rfl) (by rfl) rfl (Nat.le_of_ble_eq_true rfl) (kd := 9) (by rfl) (by decide) (Or.inl hN) (by rfl) hS
theorem s148_5 {l1 : Value}  : WP d 148 5 [.ref 82, l1] (st) X Q = WP d 148 6 [.ref 82, l1] (.ref 82 :: st) X Q := w_aload_n (by rfl) rfl (by decide)
theorem s148_6 {l0 l1 : Value}  : WP d 148 6 [l0, l1] (st) X Q = WP d 148 7 [l0, l1] (vI (2) :: st) X Q := w_iconst (by rfl)
theorem s148_7 {l0 l1 : Value}  : WP d 148 7 [l0, l1] (st) X Q = WP d 148 9 [l0, l1] (vI (9) :: st) X Q := w_bipush (by rfl) (by decide)
theorem c148_9 {l0 l1 : Value} {x0 : Value} {z1 : Int} {z2 : Int} {r : Int} {X' : q_H} (hN : 82 < N) (hS : Sp d 140 [.ref 82, vI z1, vI z2] (N, L, M) (some (vI r)) X') : WP d 148 9 [l0, l1] (vI z2 :: vI z1 :: .ref 82 :: x0 :: []) (N, L, M) Q = WP d 148 12 [l0, l1] (vI r :: x0 :: []) X' Q := w_callv (vs := [vI z1, vI z2]) (by rfl) (by rfl) rfl (Nat.le_of_ble_eq_true rfl) (kd := 9) (by rfl) (by decide) (Or.inl hN) (by rfl) hS
theorem s148_12 {l0 l1 : Value} {z1 : Int} {z2 : Int} (h1 : -2147483648 ≤ z1 ∧ z1 ≤ 2147483647) (h2 : -2147483648 ≤ z2 ∧ z2 ≤ 2147483647) : WP d 148 12 [l0, l1] (vI z2 :: vI z1 :: st) X Q = if z2 < z1 then WP d 148 19 [l0, l1] (st) X Q else WP d 148 15 [l0, l1] (st) X Q := w_icmpgt (by rfl) (by decide) h1 h2
theorem s148_15 {l0 l1 : Value}  : WP d 148 15 [l0, l1] (st) X Q = WP d 148 16 [l0, l1] (vI (1) :: st) X Q := w_iconst (by rfl)
theorem s148_16 {l0 l1 : Value}  : WP d 148 16 [l0, l1] (st) X Q = WP d 148 20 [l0, l1] (st) X Q := w_goto (by rfl) (by decide)
theorem s148_19 {l0 l1 : Value}  : WP d 148 19 [l0, l1] (st) X Q = WP d 148 20 [l0, l1] (vI (0) :: st) X Q := w_iconst (by rfl)
theorem s148_20 {l0 l1 : Value} {z1 : Int} (hz : z1 = 0 ∨ z1 = 1) : WP d 148 20 [l0, l1] (vI z1 :: []) X Q = Q (some (vI z1)) X := w_iretz (by rfl) (by rfl) (nb_bool hz)
theorem s148_20b {l0 l1 : Value} {P : Prop} [Decidable P] : WP d 148 20 [l0, l1] (vI (bI P) :: []) X Q = Q (some (vI (bI P))) X := w_iretz (by rfl) (by rfl) (nb_bool (bI_01 P))
/-! 149 BellsThatEatModel.of -/
theorem e149 {d : Nat} {X : q_H} {z1 : Int} {z2 : Int} {r : Option Value} {X' : q_H} (hd : 1 ≤ d) (h : WP (d - 1) 149 0 [.ref 82, vI z1, vI z2] [] X (fun r1 X1 => r1 = r ∧ X1 = X')) : Sp d 149 [.ref 82, vI z1, vI z2] X r X' := Sp.of1 hd (vs := [.ref 82, vI z1, vI z2]) (ls := [.ref 82, vI z1, vI z2]) (by rfl) (by rfl) h
theorem E149 {d : Nat} {X : q_H} {z1 : Int} {z2 : Int} {Q : Option Value → q_H → Prop} (hd : 1 ≤ d) (h : WP (d - 1) 149 0 [.ref 82, vI z1, vI z2] [] X Q) : ∃ r X', Sp d 149 [.ref 82, vI z1, vI z2] X r X' ∧ Q r X' := Sp.of2 hd (vs := [.ref 82, vI z1, vI z2]) (ls := [.ref 82, vI z1, vI z2]) (by rfl) (by rfl) h
theorem s149_0 {l1 l2 : Value}  : WP d 149 0 [.ref 82, l1, l2] (st) X Q = WP d 149 1 [.ref 82, l1, l2] (.ref 82 :: st) X Q := w_aload_n (by rfl) rfl (by decide)
theorem s149_1 {l0 l2 : Value} {z1 : Int} : WP d 149 1 [l0, vI z1, l2] (st) X Q = WP d 149 2 [l0, vI z1, l2] (vI z1 :: st) X Q := w_iload_n (by rfl) rfl
theorem c149_2 {l0 l1 l2 : Value} {z1 : Int} {r : Int} {X' : q_H} (hN : 82 < N) (hS : Sp d 113 [.ref 82, vI z1] (N, L, M) (some (vI r)) X') : WP d 149 2 [l0, l1, l2] (vI z1 :: .ref 82 :: []) (N, L, M) Q = WP d 149 5 [l0, l1, l2] (vI r :: []) X' Q := w_callv (vs := [vI z1]) (by rfl) (by rfl) rfl (Nat.le_of_ble_eq_true rfl) (kd := 9) (by rfl) (by decide) (Or.inl hN) (by rfl) hS
theorem s149_5 {l0 l1 l2 : Value} {z1 : Int} (h1 : -2147483648 ≤ z1 ∧ z1 ≤ 2147483647) : WP d 149 5 [l0, l1, l2] (vI z1 :: st) X Q = if z1 = 0 then WP d 149 8 [l0, l1, l2] (st) X Q else WP d 149 10 [l0, l1, l2] (st) X Q := w_ifne (by rfl) (by decide) h1
theorem s149_5b {l0 l1 l2 : Value} {P : Prop} [Decidable P] : WP d 149 5 [l0, l1, l2] (vI (bI P) :: st) X Q = if P then WP d 149 10 [l0, l1, l2] (st) X Q else WP d 149 8 [l0, l1, l2] (st) X Q := w_ifneb (by rfl) (by decide)
theorem s149_8 {l0 l1 l2 : Value}  : WP d 149 8 [l0, l1, l2] (st) X Q = WP d 149 9 [l0, l1, l2] (vI (-1) :: st) X Q := w_iconst (by rfl)
theorem s149_9 {l0 l1 l2 : Value} {z1 : Int} : WP d 149 9 [l0, l1, l2] (vI z1 :: []) X Q = Q (some (vI z1)) X := w_ireti (by rfl) (by rfl)
theorem s149_10 {l1 l2 : Value}  : WP d 149 10 [.ref 82, l1, l2] (st) X Q = WP d 149 11 [.ref 82, l1, l2] (.ref 82 :: st) X Q := w_aload_n (by rfl) rfl (by decide)
theorem s149_11 {l0 l1 : Value} {z1 : Int} : WP d 149 11 [l0, l1, vI z1] (st) X Q = WP d 149 12 [l0, l1, vI z1] (vI z1 :: st) X Q := w_iload_n (by rfl) rfl
theorem s149_12 {l0 l1 l2 : Value}  : WP d 149 12 [l0, l1, l2] (st) X Q = WP d 149 14 [l0, l1, l2] (vI (10) :: st) X Q := w_bipush (by rfl) (by decide)
theorem s149_14 {l0 l1 l2 : Value}  : WP d 149 14 [l0, l1, l2] (st) X Q = WP d 149 16 [l0, l1, l2] (vI (13) :: st) X Q := w_bipush (by rfl) (by decide)
theorem c149_16 {l0 l1 l2 : Value} {z1 : Int} {z2 : Int} {z3 : Int} {r : Int} {X' : q_H} (hN : 82 < N) (hS : Sp d 109 [.ref 82, vI z1, vI z2, vI z3] (N, L, M) (some (vI r)) X') : WP d 149 16 [l0, l1, l2] (vI z3 :: vI z2 :: vI z1 :: .ref 82 :: []) (N, L, M) Q = WP d 149 19 [l0, l1, l2] (vI r :: []) X' Q := w_callv (vs := [vI z1, vI z2, vI z3]) (by rfl) (by rfl) rfl (Nat.le_of_ble_eq_true rfl) (kd := 9) (by rfl) (by decide) (Or.inl hN) (by rfl) hS
theorem s149_19 {l0 l1 l2 : Value} {z1 : Int} (h1 : -2147483648 ≤ z1 ∧ z1 ≤ 2147483647) : WP d 149 19 [l0, l1, l2] (vI z1 :: st) X Q = if z1 = 0 then WP d 149 32 [l0, l1, l2] (st) X Q else WP d 149 22 [l0, l1, l2] (st) X Q := w_ifeq (by rfl) (by decide) h1
theorem s149_19b {l0 l1 l2 : Value} {P : Prop} [Decidable P] : WP d 149 19 [l0, l1, l2] (vI (bI P) :: st) X Q = if P then WP d 149 22 [l0, l1, l2] (st) X Q else WP d 149 32 [l0, l1, l2] (st) X Q := w_ifeqb (by rfl) (by decide)
theorem s149_22 {l1 l2 : Value}  : WP d 149 22 [.ref 82, l1, l2] (st) X Q = WP d 149 23 [.ref 82, l1, l2] (.ref 82 :: st) X Q := w_aload_n (by rfl) rfl (by decide)
theorem s149_23 {l0 l2 : Value} {z1 : Int} : WP d 149 23 [l0, vI z1, l2] (st) X Q = WP d 149 24 [l0, vI z1, l2] (vI z1 :: st) X Q := w_iload_n (by rfl) rfl
theorem s149_24 {l0 l1 : Value} {z1 : Int} : WP d 149 24 [l0, l1, vI z1] (st) X Q = WP d 149 25 [l0, l1, vI z1] (vI z1 :: st) X Q := w_iload_n (by rfl) rfl
theorem s149_25 {l0 l1 l2 : Value}  : WP d 149 25 [l0, l1, l2] (st) X Q = WP d 149 27 [l0, l1, l2] (vI (10) :: st) X Q := w_bipush (by rfl) (by decide)
theorem s149_27 {l0 l1 l2 : Value} {z1 : Int} {z2 : Int} : WP d 149 27 [l0, l1, l2] (vI z2 :: vI z1 :: st) X Q = WP d 149 28 [l0, l1, l2] (vI (z1 - z2) :: st) X Q := w_isub (by rfl)
theorem c149_28 {l0 l1 l2 : Value} {z1 : Int} {z2 : Int} {r : Int} {X' : q_H} (hN : 82 < N) (hS : Sp d 144 [.ref 82, vI z1, vI z2] (N, L, M) (some (vI r)) X') : WP d 149 28 [l0, l1, l2] (vI z2 :: vI z1 :: .ref 82 :: []) (N, L, M) Q = WP d 149 31 [l0, l1, l2] (vI r :: []) X' Q := w_callv (vs := [vI z1, vI z2]) (by rfl) (by rfl) rfl (Nat.le_of_ble_eq_true rfl) (kd := 9) (by rfl) (by decide) (Or.inl hN) (by rfl) hS
theorem s149_31 {l0 l1 l2 : Value} {z1 : Int} : WP d 149 31 [l0, l1, l2] (vI z1 :: []) X Q = Q (some (vI z1)) X := w_ireti (by rfl) (by rfl)
theorem s149_32 {l0 l1 : Value} {z1 : Int} : WP d 149 32 [l0, l1, vI z1] (st) X Q = WP d 149 33 [l0, l1, vI z1] (vI z1 :: st) X Q := w_iload_n (by rfl) rfl
theorem s149_33 {l0 l1 l2 : Value} {z1 : Int} (h1 : -2147483648 ≤ z1 ∧ z1 ≤ 2147483647) : WP d 149 33 [l0, l1, l2] (vI z1 :: st) X Q = if z1 = 0 then WP d 149 76 [l0, l1, l2] (st) X Q else if z1 = 1 then WP d 149 83 [l0, l1, l2] (st) X Q else if z1 = 2 then WP d 149 90 [l0, l1, l2] (st) X Q else if z1 = 3 then WP d 149 97 [l0, l1, l2] (st) X Q else if z1 = 4 then WP d 149 103 [l0, l1, l2] (st) X Q else if z1 = 5 then WP d 149 109 [l0, l1, l2] (st) X Q else if z1 = 6 then WP d 149 115 [l0, l1, l2] (st) X Q else WP d 149 129 [l0, l1, l2] (st) X Q := by
  by_cases e0 : z1 = 0
  · subst e0; rw [if_pos rfl]; exact w_tsw (by rfl) (by decide) (by decide) rfl (by decide)
  rw [if_neg e0]
  by_cases e1 : z1 = 1
  · subst e1; rw [if_pos rfl]; exact w_tsw (by rfl) (by decide) (by decide) rfl (by decide)
  rw [if_neg e1]
  by_cases e2 : z1 = 2
  · subst e2; rw [if_pos rfl]; exact w_tsw (by rfl) (by decide) (by decide) rfl (by decide)
  rw [if_neg e2]
  by_cases e3 : z1 = 3
  · subst e3; rw [if_pos rfl]; exact w_tsw (by rfl) (by decide) (by decide) rfl (by decide)
  rw [if_neg e3]
  by_cases e4 : z1 = 4
  · subst e4; rw [if_pos rfl]; exact w_tsw (by rfl) (by decide) (by decide) rfl (by decide)
  rw [if_neg e4]
  by_cases e5 : z1 = 5
  · subst e5; rw [if_pos rfl]; exact w_tsw (by rfl) (by decide) (by decide) rfl (by decide)
  rw [if_neg e5]
  by_cases e6 : z1 = 6
  · subst e6; rw [if_pos rfl]; exact w_tsw (by rfl) (by decide) (by decide) rfl (by decide)
  rw [if_neg e6]
  exact w_tswd (by rfl) h1 (by omega) (by decide)
theorem s149_76 {l1 l2 : Value}  : WP d 149 76 [.ref 82, l1, l2] (st) X Q = WP d 149 77 [.ref 82, l1, l2] (.ref 82 :: st) X Q := w_aload_n (by rfl) rfl (by decide)
theorem s149_77 {l0 l1 l2 : Value} (hN : 82 < N) : WP d 149 77 [l0, l1, l2] (.ref 82 :: st) (N, L, M) Q = WP d 149 80 [l0, l1, l2] (M 82 3 :: st) (N, L, M) Q := w_getf (by rfl) (by rfl) hN (by decide) (by rfl)
theorem s149_80 {l0 l2 : Value} {z1 : Int} : WP d 149 80 [l0, vI z1, l2] (st) X Q = WP d 149 81 [l0, vI z1, l2] (vI z1 :: st) X Q := w_iload_n (by rfl) rfl
theorem s149_81 {l0 l1 l2 : Value} {j1 : Int} (hj : 0 ≤ j1 ∧ j1 < 6) (hN : 83 < N) : WP d 149 81 [l0, l1, l2] (vI j1 :: .ref 83 :: st) (N, L, M) Q = WP d 149 82 [l0, l1, l2] (M 83 j1.toNat :: st) (N, L, M) Q := w_iald (by rfl) (m := 6) (by rfl) hN (by decide) hj (by decide)
theorem s149_82 {l0 l1 l2 : Value} {z1 : Int} : WP d 149 82 [l0, l1, l2] (vI z1 :: []) X Q = Q (some (vI z1)) X := w_ireti (by rfl) (by rfl)
theorem s149_83 {l1 l2 : Value}  : WP d 149 83 [.ref 82, l1, l2] (st) X Q = WP d 149 84 [.ref 82, l1, l2] (.ref 82 :: st) X Q := w_aload_n (by rfl) rfl (by decide)
theorem s149_84 {l0 l1 l2 : Value} (hN : 82 < N) : WP d 149 84 [l0, l1, l2] (.ref 82 :: st) (N, L, M) Q = WP d 149 87 [l0, l1, l2] (M 82 4 :: st) (N, L, M) Q := w_getf (by rfl) (by rfl) hN (by decide) (by rfl)
theorem s149_87 {l0 l2 : Value} {z1 : Int} : WP d 149 87 [l0, vI z1, l2] (st) X Q = WP d 149 88 [l0, vI z1, l2] (vI z1 :: st) X Q := w_iload_n (by rfl) rfl
theorem s149_88 {l0 l1 l2 : Value} {j1 : Int} (hj : 0 ≤ j1 ∧ j1 < 6) (hN : 84 < N) : WP d 149 88 [l0, l1, l2] (vI j1 :: .ref 84 :: st) (N, L, M) Q = WP d 149 89 [l0, l1, l2] (M 84 j1.toNat :: st) (N, L, M) Q := w_iald (by rfl) (m := 6) (by rfl) hN (by decide) hj (by decide)
theorem s149_89 {l0 l1 l2 : Value} {z1 : Int} : WP d 149 89 [l0, l1, l2] (vI z1 :: []) X Q = Q (some (vI z1)) X := w_ireti (by rfl) (by rfl)
theorem s149_90 {l1 l2 : Value}  : WP d 149 90 [.ref 82, l1, l2] (st) X Q = WP d 149 91 [.ref 82, l1, l2] (.ref 82 :: st) X Q := w_aload_n (by rfl) rfl (by decide)
theorem s149_91 {l0 l1 l2 : Value} (hN : 82 < N) : WP d 149 91 [l0, l1, l2] (.ref 82 :: st) (N, L, M) Q = WP d 149 94 [l0, l1, l2] (M 82 5 :: st) (N, L, M) Q := w_getf (by rfl) (by rfl) hN (by decide) (by rfl)
theorem s149_94 {l0 l2 : Value} {z1 : Int} : WP d 149 94 [l0, vI z1, l2] (st) X Q = WP d 149 95 [l0, vI z1, l2] (vI z1 :: st) X Q := w_iload_n (by rfl) rfl
theorem s149_95 {l0 l1 l2 : Value} {j1 : Int} (hj : 0 ≤ j1 ∧ j1 < 6) (hN : 85 < N) : WP d 149 95 [l0, l1, l2] (vI j1 :: .ref 85 :: st) (N, L, M) Q = WP d 149 96 [l0, l1, l2] (M 85 j1.toNat :: st) (N, L, M) Q := w_iald (by rfl) (m := 6) (by rfl) hN (by decide) hj (by decide)
theorem s149_96 {l0 l1 l2 : Value} {z1 : Int} : WP d 149 96 [l0, l1, l2] (vI z1 :: []) X Q = Q (some (vI z1)) X := w_ireti (by rfl) (by rfl)
theorem s149_97 {l1 l2 : Value}  : WP d 149 97 [.ref 82, l1, l2] (st) X Q = WP d 149 98 [.ref 82, l1, l2] (.ref 82 :: st) X Q := w_aload_n (by rfl) rfl (by decide)
theorem s149_98 {l0 l2 : Value} {z1 : Int} : WP d 149 98 [l0, vI z1, l2] (st) X Q = WP d 149 99 [l0, vI z1, l2] (vI z1 :: st) X Q := w_iload_n (by rfl) rfl
theorem c149_99 {l0 l1 l2 : Value} {z1 : Int} {r : Int} {X' : q_H} (hN : 82 < N) (hS : Sp d 145 [.ref 82, vI z1] (N, L, M) (some (vI r)) X') : WP d 149 99 [l0, l1, l2] (vI z1 :: .ref 82 :: []) (N, L, M) Q = WP d 149 102 [l0, l1, l2] (vI r :: []) X' Q := w_callv (vs := [vI z1]) (by rfl) (by rfl) rfl (Nat.le_of_ble_eq_true rfl) (kd := 9) (by rfl) (by decide) (Or.inl hN) (by rfl) hS
theorem s149_102 {l0 l1 l2 : Value} {z1 : Int} : WP d 149 102 [l0, l1, l2] (vI z1 :: []) X Q = Q (some (vI z1)) X := w_ireti (by rfl) (by rfl)
theorem s149_103 {l1 l2 : Value}  : WP d 149 103 [.ref 82, l1, l2] (st) X Q = WP d 149 104 [.ref 82, l1, l2] (.ref 82 :: st) X Q := w_aload_n (by rfl) rfl (by decide)
theorem s149_104 {l0 l2 : Value} {z1 : Int} : WP d 149 104 [l0, vI z1, l2] (st) X Q = WP d 149 105 [l0, vI z1, l2] (vI z1 :: st) X Q := w_iload_n (by rfl) rfl
theorem c149_105 {l0 l1 l2 : Value} {z1 : Int} {r : Int} {X' : q_H} (hN : 82 < N) (hS : Sp d 146 [.ref 82, vI z1] (N, L, M) (some (vI r)) X') : WP d 149 105 [l0, l1, l2] (vI z1 :: .ref 82 :: []) (N, L, M) Q = WP d 149 108 [l0, l1, l2] (vI r :: []) X' Q := w_callv (vs := [vI z1]) (by rfl) (by rfl) rfl (Nat.le_of_ble_eq_true rfl) (kd := 9) (by rfl) (by decide) (Or.inl hN) (by rfl) hS
theorem s149_108 {l0 l1 l2 : Value} {z1 : Int} : WP d 149 108 [l0, l1, l2] (vI z1 :: []) X Q = Q (some (vI z1)) X := w_ireti (by rfl) (by rfl)
theorem s149_109 {l1 l2 : Value}  : WP d 149 109 [.ref 82, l1, l2] (st) X Q = WP d 149 110 [.ref 82, l1, l2] (.ref 82 :: st) X Q := w_aload_n (by rfl) rfl (by decide)
theorem s149_110 {l0 l2 : Value} {z1 : Int} : WP d 149 110 [l0, vI z1, l2] (st) X Q = WP d 149 111 [l0, vI z1, l2] (vI z1 :: st) X Q := w_iload_n (by rfl) rfl
theorem c149_111 {l0 l1 l2 : Value} {z1 : Int} {r : Int} {X' : q_H} (hN : 82 < N) (hS : Sp d 147 [.ref 82, vI z1] (N, L, M) (some (vI r)) X') : WP d 149 111 [l0, l1, l2] (vI z1 :: .ref 82 :: []) (N, L, M) Q = WP d 149 114 [l0, l1, l2] (vI r :: []) X' Q := w_callv (vs := [vI z1]) (by rfl) (by rfl) rfl (Nat.le_of_ble_eq_true rfl) (kd := 9) (by rfl) (by decide) (Or.inl hN) (by rfl) hS
theorem s149_114 {l0 l1 l2 : Value} {z1 : Int} : WP d 149 114 [l0, l1, l2] (vI z1 :: []) X Q = Q (some (vI z1)) X := w_ireti (by rfl) (by rfl)
theorem s149_115 {l1 l2 : Value}  : WP d 149 115 [.ref 82, l1, l2] (st) X Q = WP d 149 116 [.ref 82, l1, l2] (.ref 82 :: st) X Q := w_aload_n (by rfl) rfl (by decide)
theorem s149_116 {l0 l2 : Value} {z1 : Int} : WP d 149 116 [l0, vI z1, l2] (st) X Q = WP d 149 117 [l0, vI z1, l2] (vI z1 :: st) X Q := w_iload_n (by rfl) rfl
theorem c149_117 {l0 l1 l2 : Value} {z1 : Int} {r : Int} {X' : q_H} (hN : 82 < N) (hS : Sp d 148 [.ref 82, vI z1] (N, L, M) (some (vI r)) X') : WP d 149 117 [l0, l1, l2] (vI z1 :: .ref 82 :: []) (N, L, M) Q = WP d 149 120 [l0, l1, l2] (vI r :: []) X' Q := w_callv (vs := [vI z1]) (by rfl) (by rfl) rfl (Nat.le_of_ble_eq_true rfl) (kd := 9) (by rfl) (by decide) (Or.inl hN) (by rfl) hS
theorem s149_120 {l0 l1 l2 : Value} {z1 : Int} (h1 : -2147483648 ≤ z1 ∧ z1 ≤ 2147483647) : WP d 149 120 [l0, l1, l2] (vI z1 :: st) X Q = if z1 = 0 then WP d 149 127 [l0, l1, l2] (st) X Q else WP d 149 123 [l0, l1, l2] (st) X Q := w_ifeq (by rfl) (by decide) h1
theorem s149_120b {l0 l1 l2 : Value} {P : Prop} [Decidable P] : WP d 149 120 [l0, l1, l2] (vI (bI P) :: st) X Q = if P then WP d 149 123 [l0, l1, l2] (st) X Q else WP d 149 127 [l0, l1, l2] (st) X Q := w_ifeqb (by rfl) (by decide)
theorem s149_123 {l0 l1 l2 : Value}  : WP d 149 123 [l0, l1, l2] (st) X Q = WP d 149 124 [l0, l1, l2] (vI (1) :: st) X Q := w_iconst (by rfl)
theorem s149_124 {l0 l1 l2 : Value}  : WP d 149 124 [l0, l1, l2] (st) X Q = WP d 149 128 [l0, l1, l2] (st) X Q := w_goto (by rfl) (by decide)
theorem s149_127 {l0 l1 l2 : Value}  : WP d 149 127 [l0, l1, l2] (st) X Q = WP d 149 128 [l0, l1, l2] (vI (0) :: st) X Q := w_iconst (by rfl)
theorem s149_128 {l0 l1 l2 : Value} {z1 : Int} : WP d 149 128 [l0, l1, l2] (vI z1 :: []) X Q = Q (some (vI z1)) X := w_ireti (by rfl) (by rfl)
theorem s149_129 {l0 l1 l2 : Value}  : WP d 149 129 [l0, l1, l2] (st) X Q = WP d 149 130 [l0, l1, l2] (vI (-1) :: st) X Q := w_iconst (by rfl)
theorem s149_130 {l0 l1 l2 : Value} {z1 : Int} : WP d 149 130 [l0, l1, l2] (vI z1 :: []) X Q = Q (some (vI z1)) X := w_ireti (by rfl) (by rfl)
/-! 150 BellsThatEatModel.tunedSet -/
theorem e150 {d : Nat} {X : q_H}  {r : Option Value} {X' : q_H} (hd : 1 ≤ d) (h : WP (d - 1) 150 0 [.ref 82, .null, .null] [] X (fun r1 X1 => r1 = r ∧ X1 = X')) : Sp d 150 [.ref 82] X r X' := Sp.of1 hd (vs := [.ref 82]) (ls := [.ref 82, .null, .null]) (by rfl) (by rfl) h
theorem E150 {d : Nat} {X : q_H}  {Q : Option Value → q_H → Prop} (hd : 1 ≤ d) (h : WP (d - 1) 150 0 [.ref 82, .null, .null] [] X Q) : ∃ r X', Sp d 150 [.ref 82] X r X' ∧ Q r X' := Sp.of2 hd (vs := [.ref 82]) (ls := [.ref 82, .null, .null]) (by rfl) (by rfl) h
theorem s150_0 {l0 l1 l2 : Value}  : WP d 150 0 [l0, l1, l2] (st) X Q = WP d 150 1 [l0, l1, l2] (vI (0) :: st) X Q := w_iconst (by rfl)
theorem s150_1 {l1 l2 : Value} {b1 : Nat} {z2 : Int} : WP d 150 1 [.ref b1, l1, l2] (vI z2 :: st) X Q = WP d 150 2 [.ref b1, vI z2, l2] (st) X Q := w_istore_n (by rfl) (q_okb_s rfl rfl) (Nat.le_of_ble_eq_true rfl) rfl
theorem s150_2 {l0 l1 l2 : Value}  : WP d 150 2 [l0, l1, l2] (st) X Q = WP d 150 3 [l0, l1, l2] (vI (0) :: st) X Q := w_iconst (by rfl)
theorem s150_3 {l0 l2 : Value} {z1 : Int} {z2 : Int} : WP d 150 3 [l0, vI z1, l2] (vI z2 :: st) X Q = WP d 150 4 [l0, vI z1, vI z2] (st) X Q := w_istore_n (by rfl) (q_okb_s rfl rfl) (Nat.le_of_ble_eq_true rfl) rfl
theorem s150_4 {l0 l1 : Value} {z1 : Int} : WP d 150 4 [l0, l1, vI z1] (st) X Q = WP d 150 5 [l0, l1, vI z1] (vI z1 :: st) X Q := w_iload_n (by rfl) rfl
theorem s150_5 {l1 l2 : Value}  : WP d 150 5 [.ref 82, l1, l2] (st) X Q = WP d 150 6 [.ref 82, l1, l2] (.ref 82 :: st) X Q := w_aload_n (by rfl) rfl (by decide)
theorem s150_6 {l0 l1 l2 : Value} (hN : 82 < N) : WP d 150 6 [l0, l1, l2] (.ref 82 :: st) (N, L, M) Q = WP d 150 9 [l0, l1, l2] (M 82 0 :: st) (N, L, M) Q := w_getf (by rfl) (by rfl) hN (by decide) (by rfl)
theorem s150_9 {l0 l1 l2 : Value} {z1 : Int} {z2 : Int} (h1 : -2147483648 ≤ z1 ∧ z1 ≤ 2147483647) (h2 : -2147483648 ≤ z2 ∧ z2 ≤ 2147483647) : WP d 150 9 [l0, l1, l2] (vI z2 :: vI z1 :: st) X Q = if z1 < z2 then WP d 150 12 [l0, l1, l2] (st) X Q else WP d 150 36 [l0, l1, l2] (st) X Q := w_icmpge (by rfl) (by decide) h1 h2
theorem s150_12 {l0 l2 : Value} {z1 : Int} : WP d 150 12 [l0, vI z1, l2] (st) X Q = WP d 150 13 [l0, vI z1, l2] (vI z1 :: st) X Q := w_iload_n (by rfl) rfl
theorem s150_13 {l1 l2 : Value}  : WP d 150 13 [.ref 82, l1, l2] (st) X Q = WP d 150 14 [.ref 82, l1, l2] (.ref 82 :: st) X Q := w_aload_n (by rfl) rfl (by decide)
theorem s150_14 {l0 l1 : Value} {z1 : Int} : WP d 150 14 [l0, l1, vI z1] (st) X Q = WP d 150 15 [l0, l1, vI z1] (vI z1 :: st) X Q := w_iload_n (by rfl) rfl
theorem c150_15 {l0 l1 l2 : Value} {x0 : Value} {z1 : Int} {r : Int} {X' : q_H} (hN : 82 < N) (hS : Sp d 148 [.ref 82, vI z1] (N, L, M) (some (vI r)) X') : WP d 150 15 [l0, l1, l2] (vI z1 :: .ref 82 :: x0 :: []) (N, L, M) Q = WP d 150 18 [l0, l1, l2] (vI r :: x0 :: []) X' Q := w_callv (vs := [vI z1]) (by rfl) (by rfl) rfl (Nat.le_of_ble_eq_true rfl) (kd := 9) (by rfl) (by decide) (Or.inl hN) (by rfl) hS
theorem s150_18 {l0 l1 l2 : Value} {z1 : Int} (h1 : -2147483648 ≤ z1 ∧ z1 ≤ 2147483647) : WP d 150 18 [l0, l1, l2] (vI z1 :: st) X Q = if z1 = 0 then WP d 150 27 [l0, l1, l2] (st) X Q else WP d 150 21 [l0, l1, l2] (st) X Q := w_ifeq (by rfl) (by decide) h1
theorem s150_18b {l0 l1 l2 : Value} {P : Prop} [Decidable P] : WP d 150 18 [l0, l1, l2] (vI (bI P) :: st) X Q = if P then WP d 150 21 [l0, l1, l2] (st) X Q else WP d 150 27 [l0, l1, l2] (st) X Q := w_ifeqb (by rfl) (by decide)
theorem s150_21 {l0 l1 l2 : Value}  : WP d 150 21 [l0, l1, l2] (st) X Q = WP d 150 22 [l0, l1, l2] (vI (1) :: st) X Q := w_iconst (by rfl)
theorem s150_22 {l0 l1 : Value} {z1 : Int} : WP d 150 22 [l0, l1, vI z1] (st) X Q = WP d 150 23 [l0, l1, vI z1] (vI z1 :: st) X Q := w_iload_n (by rfl) rfl
theorem s150_23 {l0 l1 l2 : Value} {z1 : Int} {z2 : Int} : WP d 150 23 [l0, l1, l2] (vI z2 :: vI z1 :: st) X Q = WP d 150 24 [l0, l1, l2] (vI (ishl z1 z2) :: st) X Q := w_ishl (by rfl)
theorem s150_24 {l0 l1 l2 : Value}  : WP d 150 24 [l0, l1, l2] (st) X Q = WP d 150 28 [l0, l1, l2] (st) X Q := w_goto (by rfl) (by decide)
theorem s150_27 {l0 l1 l2 : Value}  : WP d 150 27 [l0, l1, l2] (st) X Q = WP d 150 28 [l0, l1, l2] (vI (0) :: st) X Q := w_iconst (by rfl)
theorem s150_28 {l0 l1 l2 : Value} {z1 : Int} {z2 : Int} : WP d 150 28 [l0, l1, l2] (vI z2 :: vI z1 :: st) X Q = WP d 150 29 [l0, l1, l2] (vI (ior z1 z2) :: st) X Q := w_ior (by rfl)
theorem s150_29 {l1 l2 : Value} {b1 : Nat} {z2 : Int} : WP d 150 29 [.ref b1, l1, l2] (vI z2 :: st) X Q = WP d 150 30 [.ref b1, vI z2, l2] (st) X Q := w_istore_n (by rfl) (q_okb_s rfl rfl) (Nat.le_of_ble_eq_true rfl) rfl
theorem s150_30 {l0 : Value} {z1 : Int} {z2 : Int} : WP d 150 30 [l0, vI z2, vI z1] (st) X Q = WP d 150 33 [l0, vI z2, vI (z1 + 1)] (st) X Q := w_iinc (by rfl) rfl (q_okb_s rfl rfl) (Nat.le_of_ble_eq_true rfl) rfl
theorem s150_33 {l0 l1 l2 : Value}  : WP d 150 33 [l0, l1, l2] (st) X Q = WP d 150 4 [l0, l1, l2] (st) X Q := w_goto (by rfl) (by decide)
theorem s150_36 {l0 l2 : Value} {z1 : Int} : WP d 150 36 [l0, vI z1, l2] (st) X Q = WP d 150 37 [l0, vI z1, l2] (vI z1 :: st) X Q := w_iload_n (by rfl) rfl
theorem s150_37 {l0 l1 l2 : Value} {z1 : Int} : WP d 150 37 [l0, l1, l2] (vI z1 :: []) X Q = Q (some (vI z1)) X := w_ireti (by rfl) (by rfl)
/-! 151 BellsThatEatModel.ones -/
theorem e151 {d : Nat} {X : q_H} {z1 : Int} {r : Option Value} {X' : q_H} (hd : 1 ≤ d) (h : WP (d - 1) 151 0 [.ref 82, vI z1, .null, .null] [] X (fun r1 X1 => r1 = r ∧ X1 = X')) : Sp d 151 [.ref 82, vI z1] X r X' := Sp.of1 hd (vs := [.ref 82, vI z1]) (ls := [.ref 82, vI z1, .null, .null]) (by rfl) (by rfl) h
theorem E151 {d : Nat} {X : q_H} {z1 : Int} {Q : Option Value → q_H → Prop} (hd : 1 ≤ d) (h : WP (d - 1) 151 0 [.ref 82, vI z1, .null, .null] [] X Q) : ∃ r X', Sp d 151 [.ref 82, vI z1] X r X' ∧ Q r X' := Sp.of2 hd (vs := [.ref 82, vI z1]) (ls := [.ref 82, vI z1, .null, .null]) (by rfl) (by rfl) h
theorem s151_0 {l0 l1 l2 l3 : Value}  : WP d 151 0 [l0, l1, l2, l3] (st) X Q = WP d 151 1 [l0, l1, l2, l3] (vI (0) :: st) X Q := w_iconst (by rfl)
theorem s151_1 {l0 l2 l3 : Value} {z1 : Int} {z2 : Int} : WP d 151 1 [l0, vI z1, l2, l3] (vI z2 :: st) X Q = WP d 151 2 [l0, vI z1, vI z2, l3] (st) X Q := w_istore_n (by rfl) (q_okb_s rfl rfl) (Nat.le_of_ble_eq_true rfl) rfl
theorem s151_2 {l0 l2 l3 : Value} {z1 : Int} : WP d 151 2 [l0, vI z1, l2, l3] (st) X Q = WP d 151 3 [l0, vI z1, l2, l3] (vI z1 :: st) X Q := w_iload_n (by rfl) rfl
theorem s151_3 {l0 l1 l3 : Value} {z1 : Int} {z2 : Int} : WP d 151 3 [l0, l1, vI z1, l3] (vI z2 :: st) X Q = WP d 151 4 [l0, l1, vI z1, vI z2] (st) X Q := w_istore_n (by rfl) (q_okb_s rfl rfl) (Nat.le_of_ble_eq_true rfl) rfl
theorem s151_4 {l0 l1 l2 : Value} {z1 : Int} : WP d 151 4 [l0, l1, l2, vI z1] (st) X Q = WP d 151 5 [l0, l1, l2, vI z1] (vI z1 :: st) X Q := w_iload_n (by rfl) rfl
theorem s151_5 {l0 l1 l2 l3 : Value} {z1 : Int} (h1 : -2147483648 ≤ z1 ∧ z1 ≤ 2147483647) : WP d 151 5 [l0, l1, l2, l3] (vI z1 :: st) X Q = if z1 = 0 then WP d 151 20 [l0, l1, l2, l3] (st) X Q else WP d 151 8 [l0, l1, l2, l3] (st) X Q := w_ifeq (by rfl) (by decide) h1
theorem s151_5b {l0 l1 l2 l3 : Value} {P : Prop} [Decidable P] : WP d 151 5 [l0, l1, l2, l3] (vI (bI P) :: st) X Q = if P then WP d 151 8 [l0, l1, l2, l3] (st) X Q else WP d 151 20 [l0, l1, l2, l3] (st) X Q := w_ifeqb (by rfl) (by decide)
theorem s151_8 {l0 l3 : Value} {z1 : Int} {z2 : Int} : WP d 151 8 [l0, vI z2, vI z1, l3] (st) X Q = WP d 151 11 [l0, vI z2, vI (z1 + 1), l3] (st) X Q := w_iinc (by rfl) rfl (q_okb_s rfl rfl) (Nat.le_of_ble_eq_true rfl) rfl
theorem s151_11 {l0 l1 l2 : Value} {z1 : Int} : WP d 151 11 [l0, l1, l2, vI z1] (st) X Q = WP d 151 12 [l0, l1, l2, vI z1] (vI z1 :: st) X Q := w_iload_n (by rfl) rfl
theorem s151_12 {l0 l1 l2 : Value} {z1 : Int} : WP d 151 12 [l0, l1, l2, vI z1] (st) X Q = WP d 151 13 [l0, l1, l2, vI z1] (vI z1 :: st) X Q := w_iload_n (by rfl) rfl
theorem s151_13 {l0 l1 l2 l3 : Value}  : WP d 151 13 [l0, l1, l2, l3] (st) X Q = WP d 151 14 [l0, l1, l2, l3] (vI (1) :: st) X Q := w_iconst (by rfl)
theorem s151_14 {l0 l1 l2 l3 : Value} {z1 : Int} {z2 : Int} : WP d 151 14 [l0, l1, l2, l3] (vI z2 :: vI z1 :: st) X Q = WP d 151 15 [l0, l1, l2, l3] (vI (z1 - z2) :: st) X Q := w_isub (by rfl)
theorem s151_15 {l0 l1 l2 l3 : Value} {z1 : Int} {z2 : Int} : WP d 151 15 [l0, l1, l2, l3] (vI z2 :: vI z1 :: st) X Q = WP d 151 16 [l0, l1, l2, l3] (vI (iand z1 z2) :: st) X Q := w_iand (by rfl)
theorem s151_16 {l0 l1 l3 : Value} {z1 : Int} {z2 : Int} : WP d 151 16 [l0, l1, vI z1, l3] (vI z2 :: st) X Q = WP d 151 17 [l0, l1, vI z1, vI z2] (st) X Q := w_istore_n (by rfl) (q_okb_s rfl rfl) (Nat.le_of_ble_eq_true rfl) rfl
theorem s151_17 {l0 l1 l2 l3 : Value}  : WP d 151 17 [l0, l1, l2, l3] (st) X Q = WP d 151 4 [l0, l1, l2, l3] (st) X Q := w_goto (by rfl) (by decide)
theorem s151_20 {l0 l1 l3 : Value} {z1 : Int} : WP d 151 20 [l0, l1, vI z1, l3] (st) X Q = WP d 151 21 [l0, l1, vI z1, l3] (vI z1 :: st) X Q := w_iload_n (by rfl) rfl
theorem s151_21 {l0 l1 l2 l3 : Value} {z1 : Int} : WP d 151 21 [l0, l1, l2, l3] (vI z1 :: []) X Q = Q (some (vI z1)) X := w_ireti (by rfl) (by rfl)
/-! 152 BellsThatEatModel.told -/
theorem e152 {d : Nat} {X : q_H} {z1 : Int} {r : Option Value} {X' : q_H} (hd : 1 ≤ d) (h : WP (d - 1) 152 0 [.ref 82, vI z1] [] X (fun r1 X1 => r1 = r ∧ X1 = X')) : Sp d 152 [.ref 82, vI z1] X r X' := Sp.of1 hd (vs := [.ref 82, vI z1]) (ls := [.ref 82, vI z1]) (by rfl) (by rfl) h
theorem E152 {d : Nat} {X : q_H} {z1 : Int} {Q : Option Value → q_H → Prop} (hd : 1 ≤ d) (h : WP (d - 1) 152 0 [.ref 82, vI z1] [] X Q) : ∃ r X', Sp d 152 [.ref 82, vI z1] X r X' ∧ Q r X' := Sp.of2 hd (vs := [.ref 82, vI z1]) (ls := [.ref 82, vI z1]) (by rfl) (by rfl) h
theorem s152_0 {l1 : Value}  : WP d 152 0 [.ref 82, l1] (st) X Q = WP d 152 1 [.ref 82, l1] (.ref 82 :: st) X Q := w_aload_n (by rfl) rfl (by decide)
theorem s152_1 {l0 : Value} {z1 : Int} : WP d 152 1 [l0, vI z1] (st) X Q = WP d 152 2 [l0, vI z1] (vI z1 :: st) X Q := w_iload_n (by rfl) rfl
theorem s152_2 {l0 l1 : Value}  : WP d 152 2 [l0, l1] (st) X Q = WP d 152 4 [l0, l1] (vI (10) :: st) X Q := w_bipush (by rfl) (by decide)
theorem s152_4 {l0 l1 : Value}  : WP d 152 4 [l0, l1] (st) X Q = WP d 152 6 [l0, l1] (vI (13) :: st) X Q := w_bipush (by rfl) (by decide)
theorem c152_6 {l0 l1 : Value} {z1 : Int} {z2 : Int} {z3 : Int} {r : Int} {X' : q_H} (hN : 82 < N) (hS : Sp d 109 [.ref 82, vI z1, vI z2, vI z3] (N, L, M) (some (vI r)) X') : WP d 152 6 [l0, l1] (vI z3 :: vI z2 :: vI z1 :: .ref 82 :: []) (N, L, M) Q = WP d 152 9 [l0, l1] (vI r :: []) X' Q := w_callv (vs := [vI z1, vI z2, vI z3]) (by rfl) (by rfl) rfl (Nat.le_of_ble_eq_true rfl) (kd := 9) (by rfl) (by decide) (Or.inl hN) (by rfl) hS
theorem s152_9 {l0 l1 : Value} {z1 : Int} (h1 : -2147483648 ≤ z1 ∧ z1 ≤ 2147483647) : WP d 152 9 [l0, l1] (vI z1 :: st) X Q = if z1 = 0 then WP d 152 22 [l0, l1] (st) X Q else WP d 152 12 [l0, l1] (st) X Q := w_ifeq (by rfl) (by decide) h1
theorem s152_9b {l0 l1 : Value} {P : Prop} [Decidable P] : WP d 152 9 [l0, l1] (vI (bI P) :: st) X Q = if P then WP d 152 12 [l0, l1] (st) X Q else WP d 152 22 [l0, l1] (st) X Q := w_ifeqb (by rfl) (by decide)
theorem s152_12 {l1 : Value}  : WP d 152 12 [.ref 82, l1] (st) X Q = WP d 152 13 [.ref 82, l1] (.ref 82 :: st) X Q := w_aload_n (by rfl) rfl (by decide)
theorem s152_13 {l0 l1 : Value} (hN : 82 < N) : WP d 152 13 [l0, l1] (.ref 82 :: st) (N, L, M) Q = WP d 152 16 [l0, l1] (M 82 7 :: st) (N, L, M) Q := w_getf (by rfl) (by rfl) hN (by decide) (by rfl)
theorem s152_16 {l0 : Value} {z1 : Int} : WP d 152 16 [l0, vI z1] (st) X Q = WP d 152 17 [l0, vI z1] (vI z1 :: st) X Q := w_iload_n (by rfl) rfl
theorem s152_17 {l0 l1 : Value}  : WP d 152 17 [l0, l1] (st) X Q = WP d 152 19 [l0, l1] (vI (10) :: st) X Q := w_bipush (by rfl) (by decide)
theorem s152_19 {l0 l1 : Value} {z1 : Int} {z2 : Int} : WP d 152 19 [l0, l1] (vI z2 :: vI z1 :: st) X Q = WP d 152 20 [l0, l1] (vI (z1 - z2) :: st) X Q := w_isub (by rfl)
theorem s152_20 {l0 l1 : Value} {j1 : Int} (hj : 0 ≤ j1 ∧ j1 < 4) (hN : 87 < N) : WP d 152 20 [l0, l1] (vI j1 :: .ref 87 :: st) (N, L, M) Q = WP d 152 21 [l0, l1] (M 87 j1.toNat :: st) (N, L, M) Q := w_iald (by rfl) (m := 4) (by rfl) hN (by decide) hj (by decide)
theorem s152_21 {l0 l1 : Value} {z1 : Int} : WP d 152 21 [l0, l1] (vI z1 :: []) X Q = Q (some (vI z1)) X := w_ireti (by rfl) (by rfl)
theorem s152_22 {l0 : Value} {z1 : Int} : WP d 152 22 [l0, vI z1] (st) X Q = WP d 152 23 [l0, vI z1] (vI z1 :: st) X Q := w_iload_n (by rfl) rfl
theorem s152_23 {l0 l1 : Value} {z1 : Int} (h1 : -2147483648 ≤ z1 ∧ z1 ≤ 2147483647) : WP d 152 23 [l0, l1] (vI z1 :: st) X Q = if z1 = 0 then WP d 152 56 [l0, l1] (st) X Q else if z1 = 1 then WP d 152 61 [l0, l1] (st) X Q else if z1 = 2 then WP d 152 66 [l0, l1] (st) X Q else if z1 = 3 then WP d 152 74 [l0, l1] (st) X Q else if z1 = 4 then WP d 152 81 [l0, l1] (st) X Q else WP d 152 86 [l0, l1] (st) X Q := by
  by_cases e0 : z1 = 0
  · subst e0; rw [if_pos rfl]; exact w_tsw (by rfl) (by decide) (by decide) rfl (by decide)
  rw [if_neg e0]
  by_cases e1 : z1 = 1
  · subst e1; rw [if_pos rfl]; exact w_tsw (by rfl) (by decide) (by decide) rfl (by decide)
  rw [if_neg e1]
  by_cases e2 : z1 = 2
  · subst e2; rw [if_pos rfl]; exact w_tsw (by rfl) (by decide) (by decide) rfl (by decide)
  rw [if_neg e2]
  by_cases e3 : z1 = 3
  · subst e3; rw [if_pos rfl]; exact w_tsw (by rfl) (by decide) (by decide) rfl (by decide)
  rw [if_neg e3]
  by_cases e4 : z1 = 4
  · subst e4; rw [if_pos rfl]; exact w_tsw (by rfl) (by decide) (by decide) rfl (by decide)
  rw [if_neg e4]
  exact w_tswd (by rfl) h1 (by omega) (by decide)
theorem s152_56 {l1 : Value}  : WP d 152 56 [.ref 82, l1] (st) X Q = WP d 152 57 [.ref 82, l1] (.ref 82 :: st) X Q := w_aload_n (by rfl) rfl (by decide)
theorem s152_57 {l0 l1 : Value} (hN : 82 < N) : WP d 152 57 [l0, l1] (.ref 82 :: st) (N, L, M) Q = WP d 152 60 [l0, l1] (M 82 1 :: st) (N, L, M) Q := w_getf (by rfl) (by rfl) hN (by decide) (by rfl)
theorem s152_60 {l0 l1 : Value} {z1 : Int} : WP d 152 60 [l0, l1] (vI z1 :: []) X Q = Q (some (vI z1)) X := w_ireti (by rfl) (by rfl)
theorem s152_61 {l1 : Value}  : WP d 152 61 [.ref 82, l1] (st) X Q = WP d 152 62 [.ref 82, l1] (.ref 82 :: st) X Q := w_aload_n (by rfl) rfl (by decide)
theorem s152_62 {l0 l1 : Value} (hN : 82 < N) : WP d 152 62 [l0, l1] (.ref 82 :: st) (N, L, M) Q = WP d 152 65 [l0, l1] (M 82 2 :: st) (N, L, M) Q := w_getf (by rfl) (by rfl) hN (by decide) (by rfl)
theorem s152_65 {l0 l1 : Value} {z1 : Int} : WP d 152 65 [l0, l1] (vI z1 :: []) X Q = Q (some (vI z1)) X := w_ireti (by rfl) (by rfl)
theorem s152_66 {l1 : Value}  : WP d 152 66 [.ref 82, l1] (st) X Q = WP d 152 67 [.ref 82, l1] (.ref 82 :: st) X Q := w_aload_n (by rfl) rfl (by decide)
theorem s152_67 {l0 l1 : Value}  : WP d 152 67 [l0, l1] (st) X Q = WP d 152 68 [l0, l1] (vI (2) :: st) X Q := w_iconst (by rfl)
theorem s152_68 {l0 l1 : Value}  : WP d 152 68 [l0, l1] (st) X Q = WP d 152 70 [l0, l1] (vI (9) :: st) X Q := w_bipush (by rfl) (by decide)
theorem c152_70 {l0 l1 : Value} {z1 : Int} {z2 : Int} {r : Int} {X' : q_H} (hN : 82 < N) (hS : Sp d 140 [.ref 82, vI z1, vI z2] (N, L, M) (some (vI r)) X') : WP d 152 70 [l0, l1] (vI z2 :: vI z1 :: .ref 82 :: []) (N, L, M) Q = WP d 152 73 [l0, l1] (vI r :: []) X' Q := w_callv (vs := [vI z1, vI z2]) (by rfl) (by rfl) rfl (Nat.le_of_ble_eq_true rfl) (kd := 9) (by rfl) (by decide) (Or.inl hN) (by rfl) hS
theorem s152_73 {l0 l1 : Value} {z1 : Int} : WP d 152 73 [l0, l1] (vI z1 :: []) X Q = Q (some (vI z1)) X := w_ireti (by rfl) (by rfl)
theorem s152_74 {l1 : Value}  : WP d 152 74 [.ref 82, l1] (st) X Q = WP d 152 75 [.ref 82, l1] (.ref 82 :: st) X Q := w_aload_n (by rfl) rfl (by decide)
theorem s152_75 {l0 l1 : Value}  : WP d 152 75 [l0, l1] (st) X Q = WP d 152 76 [l0, l1] (vI (3) :: st) X Q := w_iconst (by rfl)
theorem s152_76 {l0 l1 : Value}  : WP d 152 76 [l0, l1] (st) X Q = WP d 152 77 [l0, l1] (vI (0) :: st) X Q := w_iconst (by rfl)
theorem c152_77 {l0 l1 : Value} {z1 : Int} {z2 : Int} {r : Int} {X' : q_H} (hN : 82 < N) (hS : Sp d 140 [.ref 82, vI z1, vI z2] (N, L, M) (some (vI r)) X') : WP d 152 77 [l0, l1] (vI z2 :: vI z1 :: .ref 82 :: []) (N, L, M) Q = WP d 152 80 [l0, l1] (vI r :: []) X' Q := w_callv (vs := [vI z1, vI z2]) (by rfl) (by rfl) rfl (Nat.le_of_ble_eq_true rfl) (kd := 9) (by rfl) (by decide) (Or.inl hN) (by rfl) hS
theorem s152_80 {l0 l1 : Value} {z1 : Int} : WP d 152 80 [l0, l1] (vI z1 :: []) X Q = Q (some (vI z1)) X := w_ireti (by rfl) (by rfl)
theorem s152_81 {l1 : Value}  : WP d 152 81 [.ref 82, l1] (st) X Q = WP d 152 82 [.ref 82, l1] (.ref 82 :: st) X Q := w_aload_n (by rfl) rfl (by decide)
theorem c152_82 {l0 l1 : Value} {r : Int} {X' : q_H} (hN : 82 < N) (hS : Sp d 150 [.ref 82] (N, L, M) (some (vI r)) X') : WP d 152 82 [l0, l1] (.ref 82 :: []) (N, L, M) Q = WP d 152 85 [l0, l1] (vI r :: []) X' Q := w_callv (vs := []) (by rfl) (by rfl) rfl (Nat.le_of_ble_eq_true rfl) (kd := 9) (by rfl) (by decide) (Or.inl hN) (by rfl) hS
theorem s152_85 {l0 l1 : Value} {z1 : Int} : WP d 152 85 [l0, l1] (vI z1 :: []) X Q = Q (some (vI z1)) X := w_ireti (by rfl) (by rfl)
theorem s152_86 {l0 l1 : Value}  : WP d 152 86 [l0, l1] (st) X Q = WP d 152 87 [l0, l1] (vI (-1) :: st) X Q := w_iconst (by rfl)
theorem s152_87 {l0 l1 : Value} {z1 : Int} : WP d 152 87 [l0, l1] (vI z1 :: []) X Q = Q (some (vI z1)) X := w_ireti (by rfl) (by rfl)
/-! 153 BellsThatEatModel.eatsOne -/
theorem e153 {d : Nat} {X : q_H} {z1 : Int} {z2 : Int} {r : Option Value} {X' : q_H} (hd : 1 ≤ d) (h : WP (d - 1) 153 0 [.ref 82, vI z1, vI z2] [] X (fun r1 X1 => r1 = r ∧ X1 = X')) : Sp d 153 [.ref 82, vI z1, vI z2] X r X' := Sp.of1 hd (vs := [.ref 82, vI z1, vI z2]) (ls := [.ref 82, vI z1, vI z2]) (by rfl) (by rfl) h
theorem E153 {d : Nat} {X : q_H} {z1 : Int} {z2 : Int} {Q : Option Value → q_H → Prop} (hd : 1 ≤ d) (h : WP (d - 1) 153 0 [.ref 82, vI z1, vI z2] [] X Q) : ∃ r X', Sp d 153 [.ref 82, vI z1, vI z2] X r X' ∧ Q r X' := Sp.of2 hd (vs := [.ref 82, vI z1, vI z2]) (ls := [.ref 82, vI z1, vI z2]) (by rfl) (by rfl) h
theorem s153_0 {l1 l2 : Value}  : WP d 153 0 [.ref 82, l1, l2] (st) X Q = WP d 153 1 [.ref 82, l1, l2] (.ref 82 :: st) X Q := w_aload_n (by rfl) rfl (by decide)
theorem s153_1 {l0 l1 l2 : Value} (hN : 82 < N) : WP d 153 1 [l0, l1, l2] (.ref 82 :: st) (N, L, M) Q = WP d 153 4 [l0, l1, l2] (M 82 7 :: st) (N, L, M) Q := w_getf (by rfl) (by rfl) hN (by decide) (by rfl)
theorem s153_4 {l0 l1 : Value} {z1 : Int} : WP d 153 4 [l0, l1, vI z1] (st) X Q = WP d 153 5 [l0, l1, vI z1] (vI z1 :: st) X Q := w_iload_n (by rfl) rfl
theorem s153_5 {l0 l1 l2 : Value} {z1 : Int} {a2 : Nat} : WP d 153 5 [l0, l1, l2] (vI z1 :: .ref a2 :: st) X Q = WP d 153 6 [l0, l1, l2] (vI z1 :: .ref a2 :: vI z1 :: .ref a2 :: st) X Q := w_dup2 (by rfl) rfl rfl
theorem s153_6 {l0 l1 l2 : Value} {j1 : Int} (hj : 0 ≤ j1 ∧ j1 < 4) (hN : 87 < N) : WP d 153 6 [l0, l1, l2] (vI j1 :: .ref 87 :: st) (N, L, M) Q = WP d 153 7 [l0, l1, l2] (M 87 j1.toNat :: st) (N, L, M) Q := w_iald (by rfl) (m := 4) (by rfl) hN (by decide) hj (by decide)
theorem s153_7 {l0 l1 l2 : Value}  : WP d 153 7 [l0, l1, l2] (st) X Q = WP d 153 8 [l0, l1, l2] (vI (1) :: st) X Q := w_iconst (by rfl)
theorem s153_8 {l0 l1 l2 : Value} {z1 : Int} {z2 : Int} : WP d 153 8 [l0, l1, l2] (vI z2 :: vI z1 :: st) X Q = WP d 153 9 [l0, l1, l2] (vI (z1 - z2) :: st) X Q := w_isub (by rfl)
theorem s153_9 {l0 l1 l2 : Value} {j1 : Int} {z2 : Int} (hj : 0 ≤ j1 ∧ j1 < 4) (hN : 87 < N) : WP d 153 9 [l0, l1, l2] (vI z2 :: vI j1 :: .ref 87 :: st) (N, L, M) Q = WP d 153 10 [l0, l1, l2] (st) (N, L, up M 87 j1.toNat (vI z2)) Q := w_iast (by rfl) (m := 4) (by rfl) hN hj (by decide)
theorem s153_10 {l1 l2 : Value}  : WP d 153 10 [.ref 82, l1, l2] (st) X Q = WP d 153 11 [.ref 82, l1, l2] (.ref 82 :: st) X Q := w_aload_n (by rfl) rfl (by decide)
theorem s153_11 {l0 l1 l2 : Value} (hN : 82 < N) : WP d 153 11 [l0, l1, l2] (.ref 82 :: st) (N, L, M) Q = WP d 153 14 [l0, l1, l2] (M 82 5 :: st) (N, L, M) Q := w_getf (by rfl) (by rfl) hN (by decide) (by rfl)
theorem s153_14 {l0 l2 : Value} {z1 : Int} : WP d 153 14 [l0, vI z1, l2] (st) X Q = WP d 153 15 [l0, vI z1, l2] (vI z1 :: st) X Q := w_iload_n (by rfl) rfl
theorem s153_15 {l1 l2 : Value}  : WP d 153 15 [.ref 82, l1, l2] (st) X Q = WP d 153 16 [.ref 82, l1, l2] (.ref 82 :: st) X Q := w_aload_n (by rfl) rfl (by decide)
theorem s153_16 {l1 l2 : Value}  : WP d 153 16 [.ref 82, l1, l2] (st) X Q = WP d 153 17 [.ref 82, l1, l2] (.ref 82 :: st) X Q := w_aload_n (by rfl) rfl (by decide)
theorem s153_17 {l0 l1 l2 : Value} (hN : 82 < N) : WP d 153 17 [l0, l1, l2] (.ref 82 :: st) (N, L, M) Q = WP d 153 20 [l0, l1, l2] (M 82 5 :: st) (N, L, M) Q := w_getf (by rfl) (by rfl) hN (by decide) (by rfl)
theorem s153_20 {l0 l2 : Value} {z1 : Int} : WP d 153 20 [l0, vI z1, l2] (st) X Q = WP d 153 21 [l0, vI z1, l2] (vI z1 :: st) X Q := w_iload_n (by rfl) rfl
theorem s153_21 {l0 l1 l2 : Value} {j1 : Int} (hj : 0 ≤ j1 ∧ j1 < 6) (hN : 85 < N) : WP d 153 21 [l0, l1, l2] (vI j1 :: .ref 85 :: st) (N, L, M) Q = WP d 153 22 [l0, l1, l2] (M 85 j1.toNat :: st) (N, L, M) Q := w_iald (by rfl) (m := 6) (by rfl) hN (by decide) hj (by decide)
theorem s153_22 {l1 l2 : Value}  : WP d 153 22 [.ref 82, l1, l2] (st) X Q = WP d 153 23 [.ref 82, l1, l2] (.ref 82 :: st) X Q := w_aload_n (by rfl) rfl (by decide)
theorem s153_23 {l0 l2 : Value} {z1 : Int} : WP d 153 23 [l0, vI z1, l2] (st) X Q = WP d 153 24 [l0, vI z1, l2] (vI z1 :: st) X Q := w_iload_n (by rfl) rfl
theorem s153_24 {l0 l1 : Value} {z1 : Int} : WP d 153 24 [l0, l1, vI z1] (st) X Q = WP d 153 25 [l0, l1, vI z1] (vI z1 :: st) X Q := w_iload_n (by rfl) rfl
theorem c153_25 {l0 l1 l2 : Value} {x0 x1 x2 x3 : Value} {z1 : Int} {z2 : Int} {r : Int} {X' : q_H} (hN : 82 < N) (hS : Sp d 144 [.ref 82, vI z1, vI z2] (N, L, M) (some (vI r)) X') : WP d 153 25 [l0, l1, l2] (vI z2 :: vI z1 :: .ref 82 :: x0 :: x1 :: x2 :: x3 :: []) (N, L, M) Q = WP d 153 28 [l0, l1, l2] (vI r :: x0 :: x1 :: x2 :: x3 :: []) X' Q := w_callv (vs := [vI z1, vI z2]) (by rfl) (by rfl) rfl (Nat.le_of_ble_eq_true rfl) (kd := 9) (by rfl) (by decide) (Or.inl hN) (by rfl) hS
theorem s153_28 {l0 l1 l2 : Value} {z1 : Int} {z2 : Int} : WP d 153 28 [l0, l1, l2] (vI z2 :: vI z1 :: st) X Q = WP d 153 29 [l0, l1, l2] (vI (z1 + z2) :: st) X Q := w_iadd (by rfl)
theorem c153_29 {l0 l1 l2 : Value} {x0 x1 : Value} {z1 : Int} {r : Int} {X' : q_H} (hN : 82 < N) (hS : Sp d 112 [.ref 82, vI z1] (N, L, M) (some (vI r)) X') : WP d 153 29 [l0, l1, l2] (vI z1 :: .ref 82 :: x0 :: x1 :: []) (N, L, M) Q = WP d 153 32 [l0, l1, l2] (vI r :: x0 :: x1 :: []) X' Q := w_callv (vs := [vI z1]) (by rfl) (by rfl) rfl (Nat.le_of_ble_eq_true rfl) (kd := 9) (by rfl) (by decide) (Or.inl hN) (by rfl) hS
theorem s153_32 {l0 l1 l2 : Value} {j1 : Int} {z2 : Int} (hj : 0 ≤ j1 ∧ j1 < 6) (hN : 85 < N) : WP d 153 32 [l0, l1, l2] (vI z2 :: vI j1 :: .ref 85 :: st) (N, L, M) Q = WP d 153 33 [l0, l1, l2] (st) (N, L, up M 85 j1.toNat (vI z2)) Q := w_iast (by rfl) (m := 6) (by rfl) hN hj (by decide)
theorem s153_33 {l1 l2 : Value}  : WP d 153 33 [.ref 82, l1, l2] (st) X Q = WP d 153 34 [.ref 82, l1, l2] (.ref 82 :: st) X Q := w_aload_n (by rfl) rfl (by decide)
theorem s153_34 {l1 l2 : Value}  : WP d 153 34 [.ref 82, l1, l2] (st) X Q = WP d 153 35 [.ref 82, l1, l2] (.ref 82 :: st) X Q := w_aload_n (by rfl) rfl (by decide)
theorem s153_35 {l0 l1 l2 : Value} (hN : 82 < N) : WP d 153 35 [l0, l1, l2] (.ref 82 :: st) (N, L, M) Q = WP d 153 38 [l0, l1, l2] (M 82 2 :: st) (N, L, M) Q := w_getf (by rfl) (by rfl) hN (by decide) (by rfl)
theorem s153_38 {l1 l2 : Value}  : WP d 153 38 [.ref 82, l1, l2] (st) X Q = WP d 153 39 [.ref 82, l1, l2] (.ref 82 :: st) X Q := w_aload_n (by rfl) rfl (by decide)
theorem s153_39 {l0 l1 l2 : Value} (hN : 82 < N) : WP d 153 39 [l0, l1, l2] (.ref 82 :: st) (N, L, M) Q = WP d 153 42 [l0, l1, l2] (M 82 26 :: st) (N, L, M) Q := w_getf (by rfl) (by rfl) hN (by decide) (by rfl)
theorem s153_42 {l0 l1 l2 : Value} {z1 : Int} {z2 : Int} (h1 : -2147483648 ≤ z1 ∧ z1 ≤ 2147483647) (h2 : -2147483648 ≤ z2 ∧ z2 ≤ 2147483647) : WP d 153 42 [l0, l1, l2] (vI z2 :: vI z1 :: st) X Q = if z1 < z2 then WP d 153 45 [l0, l1, l2] (st) X Q else WP d 153 54 [l0, l1, l2] (st) X Q := w_icmpge (by rfl) (by decide) h1 h2
theorem s153_45 {l1 l2 : Value}  : WP d 153 45 [.ref 82, l1, l2] (st) X Q = WP d 153 46 [.ref 82, l1, l2] (.ref 82 :: st) X Q := w_aload_n (by rfl) rfl (by decide)
theorem s153_46 {l0 l1 l2 : Value} (hN : 82 < N) : WP d 153 46 [l0, l1, l2] (.ref 82 :: st) (N, L, M) Q = WP d 153 49 [l0, l1, l2] (M 82 2 :: st) (N, L, M) Q := w_getf (by rfl) (by rfl) hN (by decide) (by rfl)
theorem s153_49 {l0 l1 l2 : Value}  : WP d 153 49 [l0, l1, l2] (st) X Q = WP d 153 50 [l0, l1, l2] (vI (1) :: st) X Q := w_iconst (by rfl)
theorem s153_50 {l0 l1 l2 : Value} {z1 : Int} {z2 : Int} : WP d 153 50 [l0, l1, l2] (vI z2 :: vI z1 :: st) X Q = WP d 153 51 [l0, l1, l2] (vI (z1 + z2) :: st) X Q := w_iadd (by rfl)
theorem s153_51 {l0 l1 l2 : Value}  : WP d 153 51 [l0, l1, l2] (st) X Q = WP d 153 58 [l0, l1, l2] (st) X Q := w_goto (by rfl) (by decide)
theorem s153_54 {l1 l2 : Value}  : WP d 153 54 [.ref 82, l1, l2] (st) X Q = WP d 153 55 [.ref 82, l1, l2] (.ref 82 :: st) X Q := w_aload_n (by rfl) rfl (by decide)
theorem s153_55 {l0 l1 l2 : Value} (hN : 82 < N) : WP d 153 55 [l0, l1, l2] (.ref 82 :: st) (N, L, M) Q = WP d 153 58 [l0, l1, l2] (M 82 26 :: st) (N, L, M) Q := w_getf (by rfl) (by rfl) hN (by decide) (by rfl)
theorem s153_58 {l0 l1 l2 : Value} {z1 : Int} (hN : 82 < N) : WP d 153 58 [l0, l1, l2] (vI z1 :: .ref 82 :: st) (N, L, M) Q = WP d 153 61 [l0, l1, l2] (st) (N, L, up M 82 2 (vI z1)) Q := w_putf (ci := 9) (by rfl) (by rfl) (by decide) hN (by rfl) (q_fit_int rfl _)
theorem s153_61 {l0 l1 l2 : Value}  : WP d 153 61 [l0, l1, l2] ([]) X Q = Q none X := w_vret (by rfl) (by rfl)
/-! 154 BellsThatEatModel.eats -/
theorem e154 {d : Nat} {X : q_H} {z1 : Int} {z2 : Int} {r : Option Value} {X' : q_H} (hd : 1 ≤ d) (h : WP (d - 1) 154 0 [.ref 82, vI z1, vI z2] [] X (fun r1 X1 => r1 = r ∧ X1 = X')) : Sp d 154 [.ref 82, vI z1, vI z2] X r X' := Sp.of1 hd (vs := [.ref 82, vI z1, vI z2]) (ls := [.ref 82, vI z1, vI z2]) (by rfl) (by rfl) h
theorem E154 {d : Nat} {X : q_H} {z1 : Int} {z2 : Int} {Q : Option Value → q_H → Prop} (hd : 1 ≤ d) (h : WP (d - 1) 154 0 [.ref 82, vI z1, vI z2] [] X Q) : ∃ r X', Sp d 154 [.ref 82, vI z1, vI z2] X r X' ∧ Q r X' := Sp.of2 hd (vs := [.ref 82, vI z1, vI z2]) (ls := [.ref 82, vI z1, vI z2]) (by rfl) (by rfl) h
theorem s154_0 {l1 l2 : Value}  : WP d 154 0 [.ref 82, l1, l2] (st) X Q = WP d 154 1 [.ref 82, l1, l2] (.ref 82 :: st) X Q := w_aload_n (by rfl) rfl (by decide)
theorem s154_1 {l0 l2 : Value} {z1 : Int} : WP d 154 1 [l0, vI z1, l2] (st) X Q = WP d 154 2 [l0, vI z1, l2] (vI z1 :: st) X Q := w_iload_n (by rfl) rfl
theorem c154_2 {l0 l1 l2 : Value} {z1 : Int} {r : Int} {X' : q_H} (hN : 82 < N) (hS : Sp d 113 [.ref 82, vI z1] (N, L, M) (some (vI r)) X') : WP d 154 2 [l0, l1, l2] (vI z1 :: .ref 82 :: []) (N, L, M) Q = WP d 154 5 [l0, l1, l2] (vI r :: []) X' Q := w_callv (vs := [vI z1]) (by rfl) (by rfl) rfl (Nat.le_of_ble_eq_true rfl) (kd := 9) (by rfl) (by decide) (Or.inl hN) (by rfl) hS
theorem s154_5 {l0 l1 l2 : Value} {z1 : Int} (h1 : -2147483648 ≤ z1 ∧ z1 ≤ 2147483647) : WP d 154 5 [l0, l1, l2] (vI z1 :: st) X Q = if z1 = 0 then WP d 154 16 [l0, l1, l2] (st) X Q else WP d 154 8 [l0, l1, l2] (st) X Q := w_ifeq (by rfl) (by decide) h1
theorem s154_5b {l0 l1 l2 : Value} {P : Prop} [Decidable P] : WP d 154 5 [l0, l1, l2] (vI (bI P) :: st) X Q = if P then WP d 154 8 [l0, l1, l2] (st) X Q else WP d 154 16 [l0, l1, l2] (st) X Q := w_ifeqb (by rfl) (by decide)
theorem s154_8 {l1 l2 : Value}  : WP d 154 8 [.ref 82, l1, l2] (st) X Q = WP d 154 9 [.ref 82, l1, l2] (.ref 82 :: st) X Q := w_aload_n (by rfl) rfl (by decide)
theorem s154_9 {l0 l1 : Value} {z1 : Int} : WP d 154 9 [l0, l1, vI z1] (st) X Q = WP d 154 10 [l0, l1, vI z1] (vI z1 :: st) X Q := w_iload_n (by rfl) rfl
theorem c154_10 {l0 l1 l2 : Value} {z1 : Int} {r : Int} {X' : q_H} (hN : 82 < N) (hS : Sp d 114 [.ref 82, vI z1] (N, L, M) (some (vI r)) X') : WP d 154 10 [l0, l1, l2] (vI z1 :: .ref 82 :: []) (N, L, M) Q = WP d 154 13 [l0, l1, l2] (vI r :: []) X' Q := w_callv (vs := [vI z1]) (by rfl) (by rfl) rfl (Nat.le_of_ble_eq_true rfl) (kd := 9) (by rfl) (by decide) (Or.inl hN) (by rfl) hS
theorem s154_13 {l0 l1 l2 : Value} {z1 : Int} (h1 : -2147483648 ≤ z1 ∧ z1 ≤ 2147483647) : WP d 154 13 [l0, l1, l2] (vI z1 :: st) X Q = if z1 = 0 then WP d 154 16 [l0, l1, l2] (st) X Q else WP d 154 18 [l0, l1, l2] (st) X Q := w_ifne (by rfl) (by decide) h1
theorem s154_13b {l0 l1 l2 : Value} {P : Prop} [Decidable P] : WP d 154 13 [l0, l1, l2] (vI (bI P) :: st) X Q = if P then WP d 154 18 [l0, l1, l2] (st) X Q else WP d 154 16 [l0, l1, l2] (st) X Q := w_ifneb (by rfl) (by decide)
theorem s154_16 {l0 l1 l2 : Value}  : WP d 154 16 [l0, l1, l2] (st) X Q = WP d 154 17 [l0, l1, l2] (vI (-1) :: st) X Q := w_iconst (by rfl)
theorem s154_17 {l0 l1 l2 : Value} {z1 : Int} : WP d 154 17 [l0, l1, l2] (vI z1 :: []) X Q = Q (some (vI z1)) X := w_ireti (by rfl) (by rfl)
theorem s154_18 {l1 l2 : Value}  : WP d 154 18 [.ref 82, l1, l2] (st) X Q = WP d 154 19 [.ref 82, l1, l2] (.ref 82 :: st) X Q := w_aload_n (by rfl) rfl (by decide)
theorem s154_19 {l0 l1 l2 : Value} (hN : 82 < N) : WP d 154 19 [l0, l1, l2] (.ref 82 :: st) (N, L, M) Q = WP d 154 22 [l0, l1, l2] (M 82 7 :: st) (N, L, M) Q := w_getf (by rfl) (by rfl) hN (by decide) (by rfl)
theorem s154_22 {l0 l1 : Value} {z1 : Int} : WP d 154 22 [l0, l1, vI z1] (st) X Q = WP d 154 23 [l0, l1, vI z1] (vI z1 :: st) X Q := w_iload_n (by rfl) rfl
theorem s154_23 {l0 l1 l2 : Value} {j1 : Int} (hj : 0 ≤ j1 ∧ j1 < 4) (hN : 87 < N) : WP d 154 23 [l0, l1, l2] (vI j1 :: .ref 87 :: st) (N, L, M) Q = WP d 154 24 [l0, l1, l2] (M 87 j1.toNat :: st) (N, L, M) Q := w_iald (by rfl) (m := 4) (by rfl) hN (by decide) hj (by decide)
theorem s154_24 {l0 l1 l2 : Value} {z1 : Int} (h1 : -2147483648 ≤ z1 ∧ z1 ≤ 2147483647) : WP d 154 24 [l0, l1, l2] (vI z1 :: st) X Q = if z1 = 0 then WP d 154 27 [l0, l1, l2] (st) X Q else WP d 154 30 [l0, l1, l2] (st) X Q := w_ifne (by rfl) (by decide) h1
theorem s154_24b {l0 l1 l2 : Value} {P : Prop} [Decidable P] : WP d 154 24 [l0, l1, l2] (vI (bI P) :: st) X Q = if P then WP d 154 30 [l0, l1, l2] (st) X Q else WP d 154 27 [l0, l1, l2] (st) X Q := w_ifneb (by rfl) (by decide)
theorem s154_27 {l0 l1 l2 : Value}  : WP d 154 27 [l0, l1, l2] (st) X Q = WP d 154 29 [l0, l1, l2] (vI (-3) :: st) X Q := w_bipush (by rfl) (by decide)
theorem s154_29 {l0 l1 l2 : Value} {z1 : Int} : WP d 154 29 [l0, l1, l2] (vI z1 :: []) X Q = Q (some (vI z1)) X := w_ireti (by rfl) (by rfl)
theorem s154_30 {l1 l2 : Value}  : WP d 154 30 [.ref 82, l1, l2] (st) X Q = WP d 154 31 [.ref 82, l1, l2] (.ref 82 :: st) X Q := w_aload_n (by rfl) rfl (by decide)
theorem s154_31 {l0 l2 : Value} {z1 : Int} : WP d 154 31 [l0, vI z1, l2] (st) X Q = WP d 154 32 [l0, vI z1, l2] (vI z1 :: st) X Q := w_iload_n (by rfl) rfl
theorem s154_32 {l0 l1 : Value} {z1 : Int} : WP d 154 32 [l0, l1, vI z1] (st) X Q = WP d 154 33 [l0, l1, vI z1] (vI z1 :: st) X Q := w_iload_n (by rfl) rfl
theorem c154_33 {l0 l1 l2 : Value} {z1 : Int} {z2 : Int} {X' : q_H} (hN : 82 < N) (hS : Sp d 153 [.ref 82, vI z1, vI z2] (N, L, M) none X') : WP d 154 33 [l0, l1, l2] (vI z2 :: vI z1 :: .ref 82 :: []) (N, L, M) Q = WP d 154 36 [l0, l1, l2] ([]) X' Q := w_callv (vs := [vI z1, vI z2]) (by rfl) (by rfl) rfl (Nat.le_of_ble_eq_true rfl) (kd := 9) (by rfl) (by decide) (Or.inl hN) (by rfl) hS
theorem s154_36 {l1 l2 : Value}  : WP d 154 36 [.ref 82, l1, l2] (st) X Q = WP d 154 37 [.ref 82, l1, l2] (.ref 82 :: st) X Q := w_aload_n (by rfl) rfl (by decide)
theorem s154_37 {l0 l1 l2 : Value} (hN : 82 < N) : WP d 154 37 [l0, l1, l2] (.ref 82 :: st) (N, L, M) Q = WP d 154 40 [l0, l1, l2] (M 82 5 :: st) (N, L, M) Q := w_getf (by rfl) (by rfl) hN (by decide) (by rfl)
theorem s154_40 {l0 l2 : Value} {z1 : Int} : WP d 154 40 [l0, vI z1, l2] (st) X Q = WP d 154 41 [l0, vI z1, l2] (vI z1 :: st) X Q := w_iload_n (by rfl) rfl
theorem s154_41 {l0 l1 l2 : Value} {j1 : Int} (hj : 0 ≤ j1 ∧ j1 < 6) (hN : 85 < N) : WP d 154 41 [l0, l1, l2] (vI j1 :: .ref 85 :: st) (N, L, M) Q = WP d 154 42 [l0, l1, l2] (M 85 j1.toNat :: st) (N, L, M) Q := w_iald (by rfl) (m := 6) (by rfl) hN (by decide) hj (by decide)
theorem s154_42 {l0 l1 l2 : Value} {z1 : Int} : WP d 154 42 [l0, l1, l2] (vI z1 :: []) X Q = Q (some (vI z1)) X := w_ireti (by rfl) (by rfl)
/-! 155 BellsThatEatModel.goDay -/
theorem e155 {d : Nat} {X : q_H}  {r : Option Value} {X' : q_H} (hd : 1 ≤ d) (h : WP (d - 1) 155 0 [.ref 82, .null] [] X (fun r1 X1 => r1 = r ∧ X1 = X')) : Sp d 155 [.ref 82] X r X' := Sp.of1 hd (vs := [.ref 82]) (ls := [.ref 82, .null]) (by rfl) (by rfl) h
theorem E155 {d : Nat} {X : q_H}  {Q : Option Value → q_H → Prop} (hd : 1 ≤ d) (h : WP (d - 1) 155 0 [.ref 82, .null] [] X Q) : ∃ r X', Sp d 155 [.ref 82] X r X' ∧ Q r X' := Sp.of2 hd (vs := [.ref 82]) (ls := [.ref 82, .null]) (by rfl) (by rfl) h
theorem s155_0 {l0 l1 : Value}  : WP d 155 0 [l0, l1] (st) X Q = WP d 155 1 [l0, l1] (vI (0) :: st) X Q := w_iconst (by rfl)
theorem s155_1 {l1 : Value} {b1 : Nat} {z2 : Int} : WP d 155 1 [.ref b1, l1] (vI z2 :: st) X Q = WP d 155 2 [.ref b1, vI z2] (st) X Q := w_istore_n (by rfl) (q_okb_s rfl rfl) (Nat.le_of_ble_eq_true rfl) rfl
theorem s155_2 {l0 : Value} {z1 : Int} : WP d 155 2 [l0, vI z1] (st) X Q = WP d 155 3 [l0, vI z1] (vI z1 :: st) X Q := w_iload_n (by rfl) rfl
theorem s155_3 {l1 : Value}  : WP d 155 3 [.ref 82, l1] (st) X Q = WP d 155 4 [.ref 82, l1] (.ref 82 :: st) X Q := w_aload_n (by rfl) rfl (by decide)
theorem s155_4 {l0 l1 : Value} (hN : 82 < N) : WP d 155 4 [l0, l1] (.ref 82 :: st) (N, L, M) Q = WP d 155 7 [l0, l1] (M 82 0 :: st) (N, L, M) Q := w_getf (by rfl) (by rfl) hN (by decide) (by rfl)
theorem s155_7 {l0 l1 : Value} {z1 : Int} {z2 : Int} (h1 : -2147483648 ≤ z1 ∧ z1 ≤ 2147483647) (h2 : -2147483648 ≤ z2 ∧ z2 ≤ 2147483647) : WP d 155 7 [l0, l1] (vI z2 :: vI z1 :: st) X Q = if z1 < z2 then WP d 155 10 [l0, l1] (st) X Q else WP d 155 38 [l0, l1] (st) X Q := w_icmpge (by rfl) (by decide) h1 h2
theorem s155_10 {l1 : Value}  : WP d 155 10 [.ref 82, l1] (st) X Q = WP d 155 11 [.ref 82, l1] (.ref 82 :: st) X Q := w_aload_n (by rfl) rfl (by decide)
theorem s155_11 {l0 l1 : Value} (hN : 82 < N) : WP d 155 11 [l0, l1] (.ref 82 :: st) (N, L, M) Q = WP d 155 14 [l0, l1] (M 82 5 :: st) (N, L, M) Q := w_getf (by rfl) (by rfl) hN (by decide) (by rfl)
theorem s155_14 {l0 : Value} {z1 : Int} : WP d 155 14 [l0, vI z1] (st) X Q = WP d 155 15 [l0, vI z1] (vI z1 :: st) X Q := w_iload_n (by rfl) rfl
theorem s155_15 {l1 : Value}  : WP d 155 15 [.ref 82, l1] (st) X Q = WP d 155 16 [.ref 82, l1] (.ref 82 :: st) X Q := w_aload_n (by rfl) rfl (by decide)
theorem s155_16 {l1 : Value}  : WP d 155 16 [.ref 82, l1] (st) X Q = WP d 155 17 [.ref 82, l1] (.ref 82 :: st) X Q := w_aload_n (by rfl) rfl (by decide)
theorem s155_17 {l0 l1 : Value} (hN : 82 < N) : WP d 155 17 [l0, l1] (.ref 82 :: st) (N, L, M) Q = WP d 155 20 [l0, l1] (M 82 5 :: st) (N, L, M) Q := w_getf (by rfl) (by rfl) hN (by decide) (by rfl)
theorem s155_20 {l0 : Value} {z1 : Int} : WP d 155 20 [l0, vI z1] (st) X Q = WP d 155 21 [l0, vI z1] (vI z1 :: st) X Q := w_iload_n (by rfl) rfl
theorem s155_21 {l0 l1 : Value} {j1 : Int} (hj : 0 ≤ j1 ∧ j1 < 6) (hN : 85 < N) : WP d 155 21 [l0, l1] (vI j1 :: .ref 85 :: st) (N, L, M) Q = WP d 155 22 [l0, l1] (M 85 j1.toNat :: st) (N, L, M) Q := w_iald (by rfl) (m := 6) (by rfl) hN (by decide) hj (by decide)
theorem s155_22 {l1 : Value}  : WP d 155 22 [.ref 82, l1] (st) X Q = WP d 155 23 [.ref 82, l1] (.ref 82 :: st) X Q := w_aload_n (by rfl) rfl (by decide)
theorem s155_23 {l0 : Value} {z1 : Int} : WP d 155 23 [l0, vI z1] (st) X Q = WP d 155 24 [l0, vI z1] (vI z1 :: st) X Q := w_iload_n (by rfl) rfl
theorem c155_24 {l0 l1 : Value} {x0 x1 x2 x3 : Value} {z1 : Int} {r : Int} {X' : q_H} (hN : 82 < N) (hS : Sp d 145 [.ref 82, vI z1] (N, L, M) (some (vI r)) X') : WP d 155 24 [l0, l1] (vI z1 :: .ref 82 :: x0 :: x1 :: x2 :: x3 :: []) (N, L, M) Q = WP d 155 27 [l0, l1] (vI r :: x0 :: x1 :: x2 :: x3 :: []) X' Q := w_callv (vs := [vI z1]) (by rfl) (by rfl) rfl (Nat.le_of_ble_eq_true rfl) (kd := 9) (by rfl) (by decide) (Or.inl hN) (by rfl) hS
theorem s155_27 {l0 l1 : Value} {z1 : Int} {z2 : Int} : WP d 155 27 [l0, l1] (vI z2 :: vI z1 :: st) X Q = WP d 155 28 [l0, l1] (vI (z1 - z2) :: st) X Q := w_isub (by rfl)
theorem c155_28 {l0 l1 : Value} {x0 x1 : Value} {z1 : Int} {r : Int} {X' : q_H} (hN : 82 < N) (hS : Sp d 111 [.ref 82, vI z1] (N, L, M) (some (vI r)) X') : WP d 155 28 [l0, l1] (vI z1 :: .ref 82 :: x0 :: x1 :: []) (N, L, M) Q = WP d 155 31 [l0, l1] (vI r :: x0 :: x1 :: []) X' Q := w_callv (vs := [vI z1]) (by rfl) (by rfl) rfl (Nat.le_of_ble_eq_true rfl) (kd := 9) (by rfl) (by decide) (Or.inl hN) (by rfl) hS
theorem s155_31 {l0 l1 : Value} {j1 : Int} {z2 : Int} (hj : 0 ≤ j1 ∧ j1 < 6) (hN : 85 < N) : WP d 155 31 [l0, l1] (vI z2 :: vI j1 :: .ref 85 :: st) (N, L, M) Q = WP d 155 32 [l0, l1] (st) (N, L, up M 85 j1.toNat (vI z2)) Q := w_iast (by rfl) (m := 6) (by rfl) hN hj (by decide)
theorem s155_32 {z1 : Int} {b2 : Nat} : WP d 155 32 [.ref b2, vI z1] (st) X Q = WP d 155 35 [.ref b2, vI (z1 + 1)] (st) X Q := w_iinc (by rfl) rfl (q_okb_s rfl rfl) (Nat.le_of_ble_eq_true rfl) rfl
theorem s155_35 {l0 l1 : Value}  : WP d 155 35 [l0, l1] (st) X Q = WP d 155 2 [l0, l1] (st) X Q := w_goto (by rfl) (by decide)
theorem s155_38 {l1 : Value}  : WP d 155 38 [.ref 82, l1] (st) X Q = WP d 155 39 [.ref 82, l1] (.ref 82 :: st) X Q := w_aload_n (by rfl) rfl (by decide)
theorem s155_39 {l0 l1 : Value} (hN : 82 < N) : WP d 155 39 [l0, l1] (.ref 82 :: st) (N, L, M) Q = WP d 155 42 [l0, l1] (M 82 7 :: st) (N, L, M) Q := w_getf (by rfl) (by rfl) hN (by decide) (by rfl)
theorem s155_42 {l1 : Value}  : WP d 155 42 [.ref 82, l1] (st) X Q = WP d 155 43 [.ref 82, l1] (.ref 82 :: st) X Q := w_aload_n (by rfl) rfl (by decide)
theorem s155_43 {l0 l1 : Value} (hN : 82 < N) : WP d 155 43 [l0, l1] (.ref 82 :: st) (N, L, M) Q = WP d 155 46 [l0, l1] (M 82 1 :: st) (N, L, M) Q := w_getf (by rfl) (by rfl) hN (by decide) (by rfl)
theorem s155_46 {l0 l1 : Value}  : WP d 155 46 [l0, l1] (st) X Q = WP d 155 47 [l0, l1] (vI (4) :: st) X Q := w_iconst (by rfl)
theorem s155_47 {l0 l1 : Value} {z1 : Int} {z2 : Int} (h1 : 0 ≤ z1 ∧ z1 ≤ 2147483647) (h2 : 0 < z2 ∧ z2 ≤ 2147483647) : WP d 155 47 [l0, l1] (vI z2 :: vI z1 :: st) X Q = WP d 155 48 [l0, l1] (vI (z1 % z2) :: st) X Q := w_irem (by rfl) h1 h2
theorem s155_48 {l1 : Value}  : WP d 155 48 [.ref 82, l1] (st) X Q = WP d 155 49 [.ref 82, l1] (.ref 82 :: st) X Q := w_aload_n (by rfl) rfl (by decide)
theorem s155_49 {l1 : Value}  : WP d 155 49 [.ref 82, l1] (st) X Q = WP d 155 50 [.ref 82, l1] (.ref 82 :: st) X Q := w_aload_n (by rfl) rfl (by decide)
theorem s155_50 {l0 l1 : Value} (hN : 82 < N) : WP d 155 50 [l0, l1] (.ref 82 :: st) (N, L, M) Q = WP d 155 53 [l0, l1] (M 82 7 :: st) (N, L, M) Q := w_getf (by rfl) (by rfl) hN (by decide) (by rfl)
theorem s155_53 {l1 : Value}  : WP d 155 53 [.ref 82, l1] (st) X Q = WP d 155 54 [.ref 82, l1] (.ref 82 :: st) X Q := w_aload_n (by rfl) rfl (by decide)
theorem s155_54 {l0 l1 : Value} (hN : 82 < N) : WP d 155 54 [l0, l1] (.ref 82 :: st) (N, L, M) Q = WP d 155 57 [l0, l1] (M 82 1 :: st) (N, L, M) Q := w_getf (by rfl) (by rfl) hN (by decide) (by rfl)
theorem s155_57 {l0 l1 : Value}  : WP d 155 57 [l0, l1] (st) X Q = WP d 155 58 [l0, l1] (vI (4) :: st) X Q := w_iconst (by rfl)
theorem s155_58 {l0 l1 : Value} {z1 : Int} {z2 : Int} (h1 : 0 ≤ z1 ∧ z1 ≤ 2147483647) (h2 : 0 < z2 ∧ z2 ≤ 2147483647) : WP d 155 58 [l0, l1] (vI z2 :: vI z1 :: st) X Q = WP d 155 59 [l0, l1] (vI (z1 % z2) :: st) X Q := w_irem (by rfl) h1 h2
theorem s155_59 {l0 l1 : Value} {j1 : Int} (hj : 0 ≤ j1 ∧ j1 < 4) (hN : 87 < N) : WP d 155 59 [l0, l1] (vI j1 :: .ref 87 :: st) (N, L, M) Q = WP d 155 60 [l0, l1] (M 87 j1.toNat :: st) (N, L, M) Q := w_iald (by rfl) (m := 4) (by rfl) hN (by decide) hj (by decide)
theorem s155_60 {l1 : Value}  : WP d 155 60 [.ref 82, l1] (st) X Q = WP d 155 61 [.ref 82, l1] (.ref 82 :: st) X Q := w_aload_n (by rfl) rfl (by decide)
theorem s155_61 {l0 l1 : Value}  : WP d 155 61 [l0, l1] (st) X Q = WP d 155 62 [l0, l1] (vI (3) :: st) X Q := w_iconst (by rfl)
theorem s155_62 {l0 l1 : Value}  : WP d 155 62 [l0, l1] (st) X Q = WP d 155 63 [l0, l1] (vI (0) :: st) X Q := w_iconst (by rfl)
theorem c155_63 {l0 l1 : Value} {x0 x1 x2 x3 : Value} {z1 : Int} {z2 : Int} {r : Int} {X' : q_H} (hN : 82 < N) (hS : Sp d 140 [.ref 82, vI z1, vI z2] (N, L, M) (some (vI r)) X') : WP d 155 63 [l0, l1] (vI z2 :: vI z1 :: .ref 82 :: x0 :: x1 :: x2 :: x3 :: []) (N, L, M) Q = WP d 155 66 [l0, l1] (vI r :: x0 :: x1 :: x2 :: x3 :: []) X' Q := w_callv (vs := [vI z1, vI z2]) (by rfl) (by rfl) rfl (Nat.le_of_ble_eq_true rfl) (kd := 9) (by rfl) (by decide) (Or.inl hN) (by rfl) hS
theorem s155_66 {l0 l1 : Value} {z1 : Int} {z2 : Int} : WP d 155 66 [l0, l1] (vI z2 :: vI z1 :: st) X Q = WP d 155 67 [l0, l1] (vI (z1 + z2) :: st) X Q := w_iadd (by rfl)
theorem c155_67 {l0 l1 : Value} {x0 x1 : Value} {z1 : Int} {r : Int} {X' : q_H} (hN : 82 < N) (hS : Sp d 112 [.ref 82, vI z1] (N, L, M) (some (vI r)) X') : WP d 155 67 [l0, l1] (vI z1 :: .ref 82 :: x0 :: x1 :: []) (N, L, M) Q = WP d 155 70 [l0, l1] (vI r :: x0 :: x1 :: []) X' Q := w_callv (vs := [vI z1]) (by rfl) (by rfl) rfl (Nat.le_of_ble_eq_true rfl) (kd := 9) (by rfl) (by decide) (Or.inl hN) (by rfl) hS
theorem s155_70 {l0 l1 : Value} {j1 : Int} {z2 : Int} (hj : 0 ≤ j1 ∧ j1 < 4) (hN : 87 < N) : WP d 155 70 [l0, l1] (vI z2 :: vI j1 :: .ref 87 :: st) (N, L, M) Q = WP d 155 71 [l0, l1] (st) (N, L, up M 87 j1.toNat (vI z2)) Q := w_iast (by rfl) (m := 4) (by rfl) hN hj (by decide)
theorem s155_71 {l1 : Value}  : WP d 155 71 [.ref 82, l1] (st) X Q = WP d 155 72 [.ref 82, l1] (.ref 82 :: st) X Q := w_aload_n (by rfl) rfl (by decide)
theorem s155_72 {l0 l1 : Value} {a1 : Nat} : WP d 155 72 [l0, l1] (.ref a1 :: st) X Q = WP d 155 73 [l0, l1] (.ref a1 :: .ref a1 :: st) X Q := w_dup (by rfl) rfl
theorem s155_73 {l0 l1 : Value} (hN : 82 < N) : WP d 155 73 [l0, l1] (.ref 82 :: st) (N, L, M) Q = WP d 155 76 [l0, l1] (M 82 1 :: st) (N, L, M) Q := w_getf (by rfl) (by rfl) hN (by decide) (by rfl)
theorem s155_76 {l0 l1 : Value}  : WP d 155 76 [l0, l1] (st) X Q = WP d 155 77 [l0, l1] (vI (1) :: st) X Q := w_iconst (by rfl)
theorem s155_77 {l0 l1 : Value} {z1 : Int} {z2 : Int} : WP d 155 77 [l0, l1] (vI z2 :: vI z1 :: st) X Q = WP d 155 78 [l0, l1] (vI (z1 + z2) :: st) X Q := w_iadd (by rfl)
theorem s155_78 {l0 l1 : Value} {z1 : Int} (hN : 82 < N) : WP d 155 78 [l0, l1] (vI z1 :: .ref 82 :: st) (N, L, M) Q = WP d 155 81 [l0, l1] (st) (N, L, up M 82 1 (vI z1)) Q := w_putf (ci := 9) (by rfl) (by rfl) (by decide) hN (by rfl) (q_fit_int rfl _)
theorem s155_81 {l0 l1 : Value}  : WP d 155 81 [l0, l1] ([]) X Q = Q none X := w_vret (by rfl) (by rfl)
/-! 156 BellsThatEatModel.goDays -/
theorem e156 {d : Nat} {X : q_H} {z1 : Int} {r : Option Value} {X' : q_H} (hd : 1 ≤ d) (h : WP (d - 1) 156 0 [.ref 82, vI z1, .null] [] X (fun r1 X1 => r1 = r ∧ X1 = X')) : Sp d 156 [.ref 82, vI z1] X r X' := Sp.of1 hd (vs := [.ref 82, vI z1]) (ls := [.ref 82, vI z1, .null]) (by rfl) (by rfl) h
theorem E156 {d : Nat} {X : q_H} {z1 : Int} {Q : Option Value → q_H → Prop} (hd : 1 ≤ d) (h : WP (d - 1) 156 0 [.ref 82, vI z1, .null] [] X Q) : ∃ r X', Sp d 156 [.ref 82, vI z1] X r X' ∧ Q r X' := Sp.of2 hd (vs := [.ref 82, vI z1]) (ls := [.ref 82, vI z1, .null]) (by rfl) (by rfl) h
theorem s156_0 {l0 l1 l2 : Value}  : WP d 156 0 [l0, l1, l2] (st) X Q = WP d 156 1 [l0, l1, l2] (vI (0) :: st) X Q := w_iconst (by rfl)
theorem s156_1 {l0 l2 : Value} {z1 : Int} {z2 : Int} : WP d 156 1 [l0, vI z1, l2] (vI z2 :: st) X Q = WP d 156 2 [l0, vI z1, vI z2] (st) X Q := w_istore_n (by rfl) (q_okb_s rfl rfl) (Nat.le_of_ble_eq_true rfl) rfl
theorem s156_2 {l0 l1 : Value} {z1 : Int} : WP d 156 2 [l0, l1, vI z1] (st) X Q = WP d 156 3 [l0, l1, vI z1] (vI z1 :: st) X Q := w_iload_n (by rfl) rfl
theorem s156_3 {l0 l2 : Value} {z1 : Int} : WP d 156 3 [l0, vI z1, l2] (st) X Q = WP d 156 4 [l0, vI z1, l2] (vI z1 :: st) X Q := w_iload_n (by rfl) rfl
theorem s156_4 {l0 l1 l2 : Value} {z1 : Int} {z2 : Int} (h1 : -2147483648 ≤ z1 ∧ z1 ≤ 2147483647) (h2 : -2147483648 ≤ z2 ∧ z2 ≤ 2147483647) : WP d 156 4 [l0, l1, l2] (vI z2 :: vI z1 :: st) X Q = if z1 < z2 then WP d 156 7 [l0, l1, l2] (st) X Q else WP d 156 17 [l0, l1, l2] (st) X Q := w_icmpge (by rfl) (by decide) h1 h2
theorem s156_7 {l1 l2 : Value}  : WP d 156 7 [.ref 82, l1, l2] (st) X Q = WP d 156 8 [.ref 82, l1, l2] (.ref 82 :: st) X Q := w_aload_n (by rfl) rfl (by decide)
theorem c156_8 {l0 l1 l2 : Value} {X' : q_H} (hN : 82 < N) (hS : Sp d 155 [.ref 82] (N, L, M) none X') : WP d 156 8 [l0, l1, l2] (.ref 82 :: []) (N, L, M) Q = WP d 156 11 [l0, l1, l2] ([]) X' Q := w_callv (vs := []) (by rfl) (by rfl) rfl (Nat.le_of_ble_eq_true rfl) (kd := 9) (by rfl) (by decide) (Or.inl hN) (by rfl) hS
theorem s156_11 {l0 : Value} {z1 : Int} {z2 : Int} : WP d 156 11 [l0, vI z2, vI z1] (st) X Q = WP d 156 14 [l0, vI z2, vI (z1 + 1)] (st) X Q := w_iinc (by rfl) rfl (q_okb_s rfl rfl) (Nat.le_of_ble_eq_true rfl) rfl
theorem s156_14 {l0 l1 l2 : Value}  : WP d 156 14 [l0, l1, l2] (st) X Q = WP d 156 2 [l0, l1, l2] (st) X Q := w_goto (by rfl) (by decide)
theorem s156_17 {l0 l1 l2 : Value}  : WP d 156 17 [l0, l1, l2] ([]) X Q = Q none X := w_vret (by rfl) (by rfl)
/-! 157 BellsThatEatModel.pass -/
theorem e157 {d : Nat} {X : q_H} {z1 : Int} {r : Option Value} {X' : q_H} (hd : 1 ≤ d) (h : WP (d - 1) 157 0 [.ref 82, vI z1] [] X (fun r1 X1 => r1 = r ∧ X1 = X')) : Sp d 157 [.ref 82, vI z1] X r X' := Sp.of1 hd (vs := [.ref 82, vI z1]) (ls := [.ref 82, vI z1]) (by rfl) (by rfl) h
theorem E157 {d : Nat} {X : q_H} {z1 : Int} {Q : Option Value → q_H → Prop} (hd : 1 ≤ d) (h : WP (d - 1) 157 0 [.ref 82, vI z1] [] X Q) : ∃ r X', Sp d 157 [.ref 82, vI z1] X r X' ∧ Q r X' := Sp.of2 hd (vs := [.ref 82, vI z1]) (ls := [.ref 82, vI z1]) (by rfl) (by rfl) h
theorem s157_0 {l1 : Value}  : WP d 157 0 [.ref 82, l1] (st) X Q = WP d 157 1 [.ref 82, l1] (.ref 82 :: st) X Q := w_aload_n (by rfl) rfl (by decide)
theorem s157_1 {l0 : Value} {z1 : Int} : WP d 157 1 [l0, vI z1] (st) X Q = WP d 157 2 [l0, vI z1] (vI z1 :: st) X Q := w_iload_n (by rfl) rfl
theorem c157_2 {l0 l1 : Value} {z1 : Int} {r : Int} {X' : q_H} (hN : 82 < N) (hS : Sp d 116 [.ref 82, vI z1] (N, L, M) (some (vI r)) X') : WP d 157 2 [l0, l1] (vI z1 :: .ref 82 :: []) (N, L, M) Q = WP d 157 5 [l0, l1] (vI r :: []) X' Q := w_callv (vs := [vI z1]) (by rfl) (by rfl) rfl (Nat.le_of_ble_eq_true rfl) (kd := 9) (by rfl) (by decide) (Or.inl hN) (by rfl) hS
theorem s157_5 {l0 l1 : Value} {z1 : Int} (h1 : -2147483648 ≤ z1 ∧ z1 ≤ 2147483647) : WP d 157 5 [l0, l1] (vI z1 :: st) X Q = if z1 = 0 then WP d 157 8 [l0, l1] (st) X Q else WP d 157 11 [l0, l1] (st) X Q := w_ifne (by rfl) (by decide) h1
theorem s157_5b {l0 l1 : Value} {P : Prop} [Decidable P] : WP d 157 5 [l0, l1] (vI (bI P) :: st) X Q = if P then WP d 157 11 [l0, l1] (st) X Q else WP d 157 8 [l0, l1] (st) X Q := w_ifneb (by rfl) (by decide)
theorem s157_8 {l0 l1 : Value}  : WP d 157 8 [l0, l1] (st) X Q = WP d 157 10 [l0, l1] (vI (-2) :: st) X Q := w_bipush (by rfl) (by decide)
theorem s157_10 {l0 l1 : Value} {z1 : Int} : WP d 157 10 [l0, l1] (vI z1 :: []) X Q = Q (some (vI z1)) X := w_ireti (by rfl) (by rfl)
theorem s157_11 {l1 : Value}  : WP d 157 11 [.ref 82, l1] (st) X Q = WP d 157 12 [.ref 82, l1] (.ref 82 :: st) X Q := w_aload_n (by rfl) rfl (by decide)
theorem s157_12 {l0 l1 : Value} (hN : 82 < N) : WP d 157 12 [l0, l1] (.ref 82 :: st) (N, L, M) Q = WP d 157 15 [l0, l1] (M 82 1 :: st) (N, L, M) Q := w_getf (by rfl) (by rfl) hN (by decide) (by rfl)
theorem s157_15 {l0 : Value} {z1 : Int} : WP d 157 15 [l0, vI z1] (st) X Q = WP d 157 16 [l0, vI z1] (vI z1 :: st) X Q := w_iload_n (by rfl) rfl
theorem s157_16 {l0 l1 : Value} {z1 : Int} {z2 : Int} : WP d 157 16 [l0, l1] (vI z2 :: vI z1 :: st) X Q = WP d 157 17 [l0, l1] (vI (z1 + z2) :: st) X Q := w_iadd (by rfl)
theorem s157_17 {l0 l1 : Value}  : WP d 157 17 [l0, l1] (st) X Q = WP d 157 20 [l0, l1] (vI (9999) :: st) X Q := w_sipush (by rfl) (by decide)
theorem s157_20 {l0 l1 : Value} {z1 : Int} {z2 : Int} (h1 : -2147483648 ≤ z1 ∧ z1 ≤ 2147483647) (h2 : -2147483648 ≤ z2 ∧ z2 ≤ 2147483647) : WP d 157 20 [l0, l1] (vI z2 :: vI z1 :: st) X Q = if z2 < z1 then WP d 157 23 [l0, l1] (st) X Q else WP d 157 26 [l0, l1] (st) X Q := w_icmple (by rfl) (by decide) h1 h2
theorem s157_23 {l0 l1 : Value}  : WP d 157 23 [l0, l1] (st) X Q = WP d 157 25 [l0, l1] (vI (-3) :: st) X Q := w_bipush (by rfl) (by decide)
theorem s157_25 {l0 l1 : Value} {z1 : Int} : WP d 157 25 [l0, l1] (vI z1 :: []) X Q = Q (some (vI z1)) X := w_ireti (by rfl) (by rfl)
theorem s157_26 {l1 : Value}  : WP d 157 26 [.ref 82, l1] (st) X Q = WP d 157 27 [.ref 82, l1] (.ref 82 :: st) X Q := w_aload_n (by rfl) rfl (by decide)
theorem s157_27 {l0 : Value} {z1 : Int} : WP d 157 27 [l0, vI z1] (st) X Q = WP d 157 28 [l0, vI z1] (vI z1 :: st) X Q := w_iload_n (by rfl) rfl
theorem c157_28 {l0 l1 : Value} {z1 : Int} {X' : q_H} (hN : 82 < N) (hS : Sp d 156 [.ref 82, vI z1] (N, L, M) none X') : WP d 157 28 [l0, l1] (vI z1 :: .ref 82 :: []) (N, L, M) Q = WP d 157 31 [l0, l1] ([]) X' Q := w_callv (vs := [vI z1]) (by rfl) (by rfl) rfl (Nat.le_of_ble_eq_true rfl) (kd := 9) (by rfl) (by decide) (Or.inl hN) (by rfl) hS
theorem s157_31 {l1 : Value}  : WP d 157 31 [.ref 82, l1] (st) X Q = WP d 157 32 [.ref 82, l1] (.ref 82 :: st) X Q := w_aload_n (by rfl) rfl (by decide)
theorem s157_32 {l0 l1 : Value} (hN : 82 < N) : WP d 157 32 [l0, l1] (.ref 82 :: st) (N, L, M) Q = WP d 157 35 [l0, l1] (M 82 1 :: st) (N, L, M) Q := w_getf (by rfl) (by rfl) hN (by decide) (by rfl)
theorem s157_35 {l0 l1 : Value} {z1 : Int} : WP d 157 35 [l0, l1] (vI z1 :: []) X Q = Q (some (vI z1)) X := w_ireti (by rfl) (by rfl)
/-! 158 BellsThatEatModel.strikes -/
theorem e158 {d : Nat} {X : q_H} {z1 : Int} {r : Option Value} {X' : q_H} (hd : 1 ≤ d) (h : WP (d - 1) 158 0 [.ref 82, vI z1, .null, .null] [] X (fun r1 X1 => r1 = r ∧ X1 = X')) : Sp d 158 [.ref 82, vI z1] X r X' := Sp.of1 hd (vs := [.ref 82, vI z1]) (ls := [.ref 82, vI z1, .null, .null]) (by rfl) (by rfl) h
theorem E158 {d : Nat} {X : q_H} {z1 : Int} {Q : Option Value → q_H → Prop} (hd : 1 ≤ d) (h : WP (d - 1) 158 0 [.ref 82, vI z1, .null, .null] [] X Q) : ∃ r X', Sp d 158 [.ref 82, vI z1] X r X' ∧ Q r X' := Sp.of2 hd (vs := [.ref 82, vI z1]) (ls := [.ref 82, vI z1, .null, .null]) (by rfl) (by rfl) h
theorem s158_0 {l1 l2 l3 : Value}  : WP d 158 0 [.ref 82, l1, l2, l3] (st) X Q = WP d 158 1 [.ref 82, l1, l2, l3] (.ref 82 :: st) X Q := w_aload_n (by rfl) rfl (by decide)
theorem s158_1 {l0 l2 l3 : Value} {z1 : Int} : WP d 158 1 [l0, vI z1, l2, l3] (st) X Q = WP d 158 2 [l0, vI z1, l2, l3] (vI z1 :: st) X Q := w_iload_n (by rfl) rfl
theorem c158_2 {l0 l1 l2 l3 : Value} {z1 : Int} {r : Int} {X' : q_H} (hN : 82 < N) (hS : Sp d 148 [.ref 82, vI z1] (N, L, M) (some (vI r)) X') : WP d 158 2 [l0, l1, l2, l3] (vI z1 :: .ref 82 :: []) (N, L, M) Q = WP d 158 5 [l0, l1, l2, l3] (vI r :: []) X' Q := w_callv (vs := [vI z1]) (by rfl) (by rfl) rfl (Nat.le_of_ble_eq_true rfl) (kd := 9) (by rfl) (by decide) (Or.inl hN) (by rfl) hS
theorem s158_5 {l0 l2 l3 : Value} {z1 : Int} {z2 : Int} : WP d 158 5 [l0, vI z1, l2, l3] (vI z2 :: st) X Q = WP d 158 6 [l0, vI z1, vI z2, l3] (st) X Q := w_istore_n (by rfl) (q_okb_s rfl rfl) (Nat.le_of_ble_eq_true rfl) rfl
theorem s158_6 {l0 l1 l2 l3 : Value}  : WP d 158 6 [l0, l1, l2, l3] (st) X Q = WP d 158 7 [l0, l1, l2, l3] (vI (0) :: st) X Q := w_iconst (by rfl)
theorem s158_7 {l0 l1 l3 : Value} {z1 : Int} {z2 : Int} : WP d 158 7 [l0, l1, vI z1, l3] (vI z2 :: st) X Q = WP d 158 8 [l0, l1, vI z1, vI z2] (st) X Q := w_istore_n (by rfl) (q_okb_s rfl rfl) (Nat.le_of_ble_eq_true rfl) rfl
theorem s158_8 {l0 l1 l2 : Value} {z1 : Int} : WP d 158 8 [l0, l1, l2, vI z1] (st) X Q = WP d 158 9 [l0, l1, l2, vI z1] (vI z1 :: st) X Q := w_iload_n (by rfl) rfl
theorem s158_9 {l1 l2 l3 : Value}  : WP d 158 9 [.ref 82, l1, l2, l3] (st) X Q = WP d 158 10 [.ref 82, l1, l2, l3] (.ref 82 :: st) X Q := w_aload_n (by rfl) rfl (by decide)
theorem s158_10 {l0 l1 l2 l3 : Value} (hN : 82 < N) : WP d 158 10 [l0, l1, l2, l3] (.ref 82 :: st) (N, L, M) Q = WP d 158 13 [l0, l1, l2, l3] (M 82 0 :: st) (N, L, M) Q := w_getf (by rfl) (by rfl) hN (by decide) (by rfl)
theorem s158_13 {l0 l1 l2 l3 : Value} {z1 : Int} {z2 : Int} (h1 : -2147483648 ≤ z1 ∧ z1 ≤ 2147483647) (h2 : -2147483648 ≤ z2 ∧ z2 ≤ 2147483647) : WP d 158 13 [l0, l1, l2, l3] (vI z2 :: vI z1 :: st) X Q = if z1 < z2 then WP d 158 16 [l0, l1, l2, l3] (st) X Q else WP d 158 40 [l0, l1, l2, l3] (st) X Q := w_icmpge (by rfl) (by decide) h1 h2
theorem s158_16 {l1 l2 l3 : Value}  : WP d 158 16 [.ref 82, l1, l2, l3] (st) X Q = WP d 158 17 [.ref 82, l1, l2, l3] (.ref 82 :: st) X Q := w_aload_n (by rfl) rfl (by decide)
theorem s158_17 {l0 l1 l2 l3 : Value} (hN : 82 < N) : WP d 158 17 [l0, l1, l2, l3] (.ref 82 :: st) (N, L, M) Q = WP d 158 20 [l0, l1, l2, l3] (M 82 5 :: st) (N, L, M) Q := w_getf (by rfl) (by rfl) hN (by decide) (by rfl)
theorem s158_20 {l0 l1 l2 : Value} {z1 : Int} : WP d 158 20 [l0, l1, l2, vI z1] (st) X Q = WP d 158 21 [l0, l1, l2, vI z1] (vI z1 :: st) X Q := w_iload_n (by rfl) rfl
theorem s158_21 {l1 l2 l3 : Value}  : WP d 158 21 [.ref 82, l1, l2, l3] (st) X Q = WP d 158 22 [.ref 82, l1, l2, l3] (.ref 82 :: st) X Q := w_aload_n (by rfl) rfl (by decide)
theorem s158_22 {l1 l2 l3 : Value}  : WP d 158 22 [.ref 82, l1, l2, l3] (st) X Q = WP d 158 23 [.ref 82, l1, l2, l3] (.ref 82 :: st) X Q := w_aload_n (by rfl) rfl (by decide)
theorem s158_23 {l0 l1 l2 l3 : Value} (hN : 82 < N) : WP d 158 23 [l0, l1, l2, l3] (.ref 82 :: st) (N, L, M) Q = WP d 158 26 [l0, l1, l2, l3] (M 82 5 :: st) (N, L, M) Q := w_getf (by rfl) (by rfl) hN (by decide) (by rfl)
theorem s158_26 {l0 l1 l2 : Value} {z1 : Int} : WP d 158 26 [l0, l1, l2, vI z1] (st) X Q = WP d 158 27 [l0, l1, l2, vI z1] (vI z1 :: st) X Q := w_iload_n (by rfl) rfl
theorem s158_27 {l0 l1 l2 l3 : Value} {j1 : Int} (hj : 0 ≤ j1 ∧ j1 < 6) (hN : 85 < N) : WP d 158 27 [l0, l1, l2, l3] (vI j1 :: .ref 85 :: st) (N, L, M) Q = WP d 158 28 [l0, l1, l2, l3] (M 85 j1.toNat :: st) (N, L, M) Q := w_iald (by rfl) (m := 6) (by rfl) hN (by decide) hj (by decide)
theorem s158_28 {l0 l1 l2 l3 : Value}  : WP d 158 28 [l0, l1, l2, l3] (st) X Q = WP d 158 29 [l0, l1, l2, l3] (vI (1) :: st) X Q := w_iconst (by rfl)
theorem s158_29 {l0 l1 l2 l3 : Value} {z1 : Int} {z2 : Int} : WP d 158 29 [l0, l1, l2, l3] (vI z2 :: vI z1 :: st) X Q = WP d 158 30 [l0, l1, l2, l3] (vI (z1 - z2) :: st) X Q := w_isub (by rfl)
theorem c158_30 {l0 l1 l2 l3 : Value} {x0 x1 : Value} {z1 : Int} {r : Int} {X' : q_H} (hN : 82 < N) (hS : Sp d 111 [.ref 82, vI z1] (N, L, M) (some (vI r)) X') : WP d 158 30 [l0, l1, l2, l3] (vI z1 :: .ref 82 :: x0 :: x1 :: []) (N, L, M) Q = WP d 158 33 [l0, l1, l2, l3] (vI r :: x0 :: x1 :: []) X' Q := w_callv (vs := [vI z1]) (by rfl) (by rfl) rfl (Nat.le_of_ble_eq_true rfl) (kd := 9) (by rfl) (by decide) (Or.inl hN) (by rfl) hS
theorem s158_33 {l0 l1 l2 l3 : Value} {j1 : Int} {z2 : Int} (hj : 0 ≤ j1 ∧ j1 < 6) (hN : 85 < N) : WP d 158 33 [l0, l1, l2, l3] (vI z2 :: vI j1 :: .ref 85 :: st) (N, L, M) Q = WP d 158 34 [l0, l1, l2, l3] (st) (N, L, up M 85 j1.toNat (vI z2)) Q := w_iast (by rfl) (m := 6) (by rfl) hN hj (by decide)
theorem s158_34 {l0 l1 : Value} {z1 : Int} {z2 : Int} : WP d 158 34 [l0, l1, vI z2, vI z1] (st) X Q = WP d 158 37 [l0, l1, vI z2, vI (z1 + 1)] (st) X Q := w_iinc (by rfl) rfl (q_okb_s rfl rfl) (Nat.le_of_ble_eq_true rfl) rfl
theorem s158_37 {l0 l1 l2 l3 : Value}  : WP d 158 37 [l0, l1, l2, l3] (st) X Q = WP d 158 8 [l0, l1, l2, l3] (st) X Q := w_goto (by rfl) (by decide)
theorem s158_40 {l0 l1 l3 : Value} {z1 : Int} : WP d 158 40 [l0, l1, vI z1, l3] (st) X Q = WP d 158 41 [l0, l1, vI z1, l3] (vI z1 :: st) X Q := w_iload_n (by rfl) rfl
theorem s158_41 {l0 l1 l2 l3 : Value} {z1 : Int} (hz : z1 = 0 ∨ z1 = 1) : WP d 158 41 [l0, l1, l2, l3] (vI z1 :: []) X Q = Q (some (vI z1)) X := w_iretz (by rfl) (by rfl) (nb_bool hz)
theorem s158_41b {l0 l1 l2 l3 : Value} {P : Prop} [Decidable P] : WP d 158 41 [l0, l1, l2, l3] (vI (bI P) :: []) X Q = Q (some (vI (bI P))) X := w_iretz (by rfl) (by rfl) (nb_bool (bI_01 P))
/-! 159 BellsThatEatModel.strike -/
theorem e159 {d : Nat} {X : q_H} {z1 : Int} {r : Option Value} {X' : q_H} (hd : 1 ≤ d) (h : WP (d - 1) 159 0 [.ref 82, vI z1] [] X (fun r1 X1 => r1 = r ∧ X1 = X')) : Sp d 159 [.ref 82, vI z1] X r X' := Sp.of1 hd (vs := [.ref 82, vI z1]) (ls := [.ref 82, vI z1]) (by rfl) (by rfl) h
theorem E159 {d : Nat} {X : q_H} {z1 : Int} {Q : Option Value → q_H → Prop} (hd : 1 ≤ d) (h : WP (d - 1) 159 0 [.ref 82, vI z1] [] X Q) : ∃ r X', Sp d 159 [.ref 82, vI z1] X r X' ∧ Q r X' := Sp.of2 hd (vs := [.ref 82, vI z1]) (ls := [.ref 82, vI z1]) (by rfl) (by rfl) h
theorem s159_0 {l1 : Value}  : WP d 159 0 [.ref 82, l1] (st) X Q = WP d 159 1 [.ref 82, l1] (.ref 82 :: st) X Q := w_aload_n (by rfl) rfl (by decide)
theorem s159_1 {l0 : Value} {z1 : Int} : WP d 159 1 [l0, vI z1] (st) X Q = WP d 159 2 [l0, vI z1] (vI z1 :: st) X Q := w_iload_n (by rfl) rfl
theorem c159_2 {l0 l1 : Value} {z1 : Int} {r : Int} {X' : q_H} (hN : 82 < N) (hS : Sp d 113 [.ref 82, vI z1] (N, L, M) (some (vI r)) X') : WP d 159 2 [l0, l1] (vI z1 :: .ref 82 :: []) (N, L, M) Q = WP d 159 5 [l0, l1] (vI r :: []) X' Q := w_callv (vs := [vI z1]) (by rfl) (by rfl) rfl (Nat.le_of_ble_eq_true rfl) (kd := 9) (by rfl) (by decide) (Or.inl hN) (by rfl) hS
theorem s159_5 {l0 l1 : Value} {z1 : Int} (h1 : -2147483648 ≤ z1 ∧ z1 ≤ 2147483647) : WP d 159 5 [l0, l1] (vI z1 :: st) X Q = if z1 = 0 then WP d 159 8 [l0, l1] (st) X Q else WP d 159 12 [l0, l1] (st) X Q := w_ifne (by rfl) (by decide) h1
theorem s159_5b {l0 l1 : Value} {P : Prop} [Decidable P] : WP d 159 5 [l0, l1] (vI (bI P) :: st) X Q = if P then WP d 159 12 [l0, l1] (st) X Q else WP d 159 8 [l0, l1] (st) X Q := w_ifneb (by rfl) (by decide)
theorem s159_8 {l0 l1 : Value}  : WP d 159 8 [l0, l1] (st) X Q = WP d 159 9 [l0, l1] (vI (-1) :: st) X Q := w_iconst (by rfl)
theorem s159_9 {l0 l1 : Value}  : WP d 159 9 [l0, l1] (st) X Q = WP d 159 25 [l0, l1] (st) X Q := w_goto (by rfl) (by decide)
theorem s159_12 {l1 : Value}  : WP d 159 12 [.ref 82, l1] (st) X Q = WP d 159 13 [.ref 82, l1] (.ref 82 :: st) X Q := w_aload_n (by rfl) rfl (by decide)
theorem s159_13 {l0 : Value} {z1 : Int} : WP d 159 13 [l0, vI z1] (st) X Q = WP d 159 14 [l0, vI z1] (vI z1 :: st) X Q := w_iload_n (by rfl) rfl
theorem c159_14 {l0 l1 : Value} {z1 : Int} {r : Int} {X' : q_H} (hN : 82 < N) (hS : Sp d 158 [.ref 82, vI z1] (N, L, M) (some (vI r)) X') : WP d 159 14 [l0, l1] (vI z1 :: .ref 82 :: []) (N, L, M) Q = WP d 159 17 [l0, l1] (vI r :: []) X' Q := w_callv (vs := [vI z1]) (by rfl) (by rfl) rfl (Nat.le_of_ble_eq_true rfl) (kd := 9) (by rfl) (by decide) (Or.inl hN) (by rfl) hS
theorem s159_17 {l0 l1 : Value} {z1 : Int} (h1 : -2147483648 ≤ z1 ∧ z1 ≤ 2147483647) : WP d 159 17 [l0, l1] (vI z1 :: st) X Q = if z1 = 0 then WP d 159 24 [l0, l1] (st) X Q else WP d 159 20 [l0, l1] (st) X Q := w_ifeq (by rfl) (by decide) h1
theorem s159_17b {l0 l1 : Value} {P : Prop} [Decidable P] : WP d 159 17 [l0, l1] (vI (bI P) :: st) X Q = if P then WP d 159 20 [l0, l1] (st) X Q else WP d 159 24 [l0, l1] (st) X Q := w_ifeqb (by rfl) (by decide)
theorem s159_20 {l0 l1 : Value}  : WP d 159 20 [l0, l1] (st) X Q = WP d 159 21 [l0, l1] (vI (1) :: st) X Q := w_iconst (by rfl)
theorem s159_21 {l0 l1 : Value}  : WP d 159 21 [l0, l1] (st) X Q = WP d 159 25 [l0, l1] (st) X Q := w_goto (by rfl) (by decide)
theorem s159_24 {l0 l1 : Value}  : WP d 159 24 [l0, l1] (st) X Q = WP d 159 25 [l0, l1] (vI (0) :: st) X Q := w_iconst (by rfl)
theorem s159_25 {l0 l1 : Value} {z1 : Int} : WP d 159 25 [l0, l1] (vI z1 :: []) X Q = Q (some (vI z1)) X := w_ireti (by rfl) (by rfl)
/-! 160 BellsThatEatModel.save -/
theorem e160 {d : Nat} {X : q_H}  {r : Option Value} {X' : q_H} (hd : 1 ≤ d) (h : WP (d - 1) 160 0 [.ref 82, .null] [] X (fun r1 X1 => r1 = r ∧ X1 = X')) : Sp d 160 [.ref 82] X r X' := Sp.of1 hd (vs := [.ref 82]) (ls := [.ref 82, .null]) (by rfl) (by rfl) h
theorem E160 {d : Nat} {X : q_H}  {Q : Option Value → q_H → Prop} (hd : 1 ≤ d) (h : WP (d - 1) 160 0 [.ref 82, .null] [] X Q) : ∃ r X', Sp d 160 [.ref 82] X r X' ∧ Q r X' := Sp.of2 hd (vs := [.ref 82]) (ls := [.ref 82, .null]) (by rfl) (by rfl) h
theorem s160_0 {l1 : Value}  : WP d 160 0 [.ref 82, l1] (st) X Q = WP d 160 1 [.ref 82, l1] (.ref 82 :: st) X Q := w_aload_n (by rfl) rfl (by decide)
theorem s160_1 {l0 l1 : Value}  : WP d 160 1 [l0, l1] (st) X Q = WP d 160 4 [l0, l1] (vI (2000000000) :: st) X Q := w_ldcw (by rfl) (z := 2000000000) (by rfl)
theorem s160_4 {l0 l1 : Value} {z1 : Int} (hN : 82 < N) : WP d 160 4 [l0, l1] (vI z1 :: .ref 82 :: st) (N, L, M) Q = WP d 160 7 [l0, l1] (st) (N, L, up M 82 26 (vI z1)) Q := w_putf (ci := 9) (by rfl) (by rfl) (by decide) hN (by rfl) (q_fit_int rfl _)
theorem s160_7 {l1 : Value}  : WP d 160 7 [.ref 82, l1] (st) X Q = WP d 160 8 [.ref 82, l1] (.ref 82 :: st) X Q := w_aload_n (by rfl) rfl (by decide)
theorem s160_8 {l1 : Value}  : WP d 160 8 [.ref 82, l1] (st) X Q = WP d 160 9 [.ref 82, l1] (.ref 82 :: st) X Q := w_aload_n (by rfl) rfl (by decide)
theorem s160_9 {l0 l1 : Value} (hN : 82 < N) : WP d 160 9 [l0, l1] (.ref 82 :: st) (N, L, M) Q = WP d 160 12 [l0, l1] (M 82 1 :: st) (N, L, M) Q := w_getf (by rfl) (by rfl) hN (by decide) (by rfl)
theorem s160_12 {l0 l1 : Value} {z1 : Int} (hN : 82 < N) : WP d 160 12 [l0, l1] (vI z1 :: .ref 82 :: st) (N, L, M) Q = WP d 160 15 [l0, l1] (st) (N, L, up M 82 27 (vI z1)) Q := w_putf (ci := 9) (by rfl) (by rfl) (by decide) hN (by rfl) (q_fit_int rfl _)
theorem s160_15 {l1 : Value}  : WP d 160 15 [.ref 82, l1] (st) X Q = WP d 160 16 [.ref 82, l1] (.ref 82 :: st) X Q := w_aload_n (by rfl) rfl (by decide)
theorem s160_16 {l1 : Value}  : WP d 160 16 [.ref 82, l1] (st) X Q = WP d 160 17 [.ref 82, l1] (.ref 82 :: st) X Q := w_aload_n (by rfl) rfl (by decide)
theorem s160_17 {l0 l1 : Value} (hN : 82 < N) : WP d 160 17 [l0, l1] (.ref 82 :: st) (N, L, M) Q = WP d 160 20 [l0, l1] (M 82 2 :: st) (N, L, M) Q := w_getf (by rfl) (by rfl) hN (by decide) (by rfl)
theorem s160_20 {l0 l1 : Value} {z1 : Int} (hN : 82 < N) : WP d 160 20 [l0, l1] (vI z1 :: .ref 82 :: st) (N, L, M) Q = WP d 160 23 [l0, l1] (st) (N, L, up M 82 28 (vI z1)) Q := w_putf (ci := 9) (by rfl) (by rfl) (by decide) hN (by rfl) (q_fit_int rfl _)
theorem s160_23 {l0 l1 : Value}  : WP d 160 23 [l0, l1] (st) X Q = WP d 160 24 [l0, l1] (vI (0) :: st) X Q := w_iconst (by rfl)
theorem s160_24 {l1 : Value} {b1 : Nat} {z2 : Int} : WP d 160 24 [.ref b1, l1] (vI z2 :: st) X Q = WP d 160 25 [.ref b1, vI z2] (st) X Q := w_istore_n (by rfl) (q_okb_s rfl rfl) (Nat.le_of_ble_eq_true rfl) rfl
theorem s160_25 {l0 : Value} {z1 : Int} : WP d 160 25 [l0, vI z1] (st) X Q = WP d 160 26 [l0, vI z1] (vI z1 :: st) X Q := w_iload_n (by rfl) rfl
theorem s160_26 {l0 l1 : Value}  : WP d 160 26 [l0, l1] (st) X Q = WP d 160 28 [l0, l1] (vI (6) :: st) X Q := w_bipush (by rfl) (by decide)
theorem s160_28 {l0 l1 : Value} {z1 : Int} {z2 : Int} (h1 : -2147483648 ≤ z1 ∧ z1 ≤ 2147483647) (h2 : -2147483648 ≤ z2 ∧ z2 ≤ 2147483647) : WP d 160 28 [l0, l1] (vI z2 :: vI z1 :: st) X Q = if z1 < z2 then WP d 160 31 [l0, l1] (st) X Q else WP d 160 49 [l0, l1] (st) X Q := w_icmpge (by rfl) (by decide) h1 h2
theorem s160_31 {l1 : Value}  : WP d 160 31 [.ref 82, l1] (st) X Q = WP d 160 32 [.ref 82, l1] (.ref 82 :: st) X Q := w_aload_n (by rfl) rfl (by decide)
theorem s160_32 {l0 l1 : Value} (hN : 82 < N) : WP d 160 32 [l0, l1] (.ref 82 :: st) (N, L, M) Q = WP d 160 35 [l0, l1] (M 82 29 :: st) (N, L, M) Q := w_getf (by rfl) (by rfl) hN (by decide) (by rfl)
theorem s160_35 {l0 : Value} {z1 : Int} : WP d 160 35 [l0, vI z1] (st) X Q = WP d 160 36 [l0, vI z1] (vI z1 :: st) X Q := w_iload_n (by rfl) rfl
theorem s160_36 {l1 : Value}  : WP d 160 36 [.ref 82, l1] (st) X Q = WP d 160 37 [.ref 82, l1] (.ref 82 :: st) X Q := w_aload_n (by rfl) rfl (by decide)
theorem s160_37 {l0 l1 : Value} (hN : 82 < N) : WP d 160 37 [l0, l1] (.ref 82 :: st) (N, L, M) Q = WP d 160 40 [l0, l1] (M 82 5 :: st) (N, L, M) Q := w_getf (by rfl) (by rfl) hN (by decide) (by rfl)
theorem s160_40 {l0 : Value} {z1 : Int} : WP d 160 40 [l0, vI z1] (st) X Q = WP d 160 41 [l0, vI z1] (vI z1 :: st) X Q := w_iload_n (by rfl) rfl
theorem s160_41 {l0 l1 : Value} {j1 : Int} (hj : 0 ≤ j1 ∧ j1 < 6) (hN : 85 < N) : WP d 160 41 [l0, l1] (vI j1 :: .ref 85 :: st) (N, L, M) Q = WP d 160 42 [l0, l1] (M 85 j1.toNat :: st) (N, L, M) Q := w_iald (by rfl) (m := 6) (by rfl) hN (by decide) hj (by decide)
theorem s160_42 {l0 l1 : Value} {j1 : Int} {z2 : Int} (hj : 0 ≤ j1 ∧ j1 < 6) (hN : 98 < N) : WP d 160 42 [l0, l1] (vI z2 :: vI j1 :: .ref 98 :: st) (N, L, M) Q = WP d 160 43 [l0, l1] (st) (N, L, up M 98 j1.toNat (vI z2)) Q := w_iast (by rfl) (m := 6) (by rfl) hN hj (by decide)
theorem s160_43 {z1 : Int} {b2 : Nat} : WP d 160 43 [.ref b2, vI z1] (st) X Q = WP d 160 46 [.ref b2, vI (z1 + 1)] (st) X Q := w_iinc (by rfl) rfl (q_okb_s rfl rfl) (Nat.le_of_ble_eq_true rfl) rfl
theorem s160_46 {l0 l1 : Value}  : WP d 160 46 [l0, l1] (st) X Q = WP d 160 25 [l0, l1] (st) X Q := w_goto (by rfl) (by decide)
theorem s160_49 {l0 l1 : Value}  : WP d 160 49 [l0, l1] (st) X Q = WP d 160 50 [l0, l1] (vI (0) :: st) X Q := w_iconst (by rfl)
theorem s160_50 {l1 : Value} {b1 : Nat} {z2 : Int} : WP d 160 50 [.ref b1, l1] (vI z2 :: st) X Q = WP d 160 51 [.ref b1, vI z2] (st) X Q := w_istore_n (by rfl) (q_okb_s rfl rfl) (Nat.le_of_ble_eq_true rfl) rfl
theorem s160_51 {l0 : Value} {z1 : Int} : WP d 160 51 [l0, vI z1] (st) X Q = WP d 160 52 [l0, vI z1] (vI z1 :: st) X Q := w_iload_n (by rfl) rfl
theorem s160_52 {l0 l1 : Value}  : WP d 160 52 [l0, l1] (st) X Q = WP d 160 53 [l0, l1] (vI (4) :: st) X Q := w_iconst (by rfl)
theorem s160_53 {l0 l1 : Value} {z1 : Int} {z2 : Int} (h1 : -2147483648 ≤ z1 ∧ z1 ≤ 2147483647) (h2 : -2147483648 ≤ z2 ∧ z2 ≤ 2147483647) : WP d 160 53 [l0, l1] (vI z2 :: vI z1 :: st) X Q = if z1 < z2 then WP d 160 56 [l0, l1] (st) X Q else WP d 160 74 [l0, l1] (st) X Q := w_icmpge (by rfl) (by decide) h1 h2
theorem s160_56 {l1 : Value}  : WP d 160 56 [.ref 82, l1] (st) X Q = WP d 160 57 [.ref 82, l1] (.ref 82 :: st) X Q := w_aload_n (by rfl) rfl (by decide)
theorem s160_57 {l0 l1 : Value} (hN : 82 < N) : WP d 160 57 [l0, l1] (.ref 82 :: st) (N, L, M) Q = WP d 160 60 [l0, l1] (M 82 30 :: st) (N, L, M) Q := w_getf (by rfl) (by rfl) hN (by decide) (by rfl)
theorem s160_60 {l0 : Value} {z1 : Int} : WP d 160 60 [l0, vI z1] (st) X Q = WP d 160 61 [l0, vI z1] (vI z1 :: st) X Q := w_iload_n (by rfl) rfl
theorem s160_61 {l1 : Value}  : WP d 160 61 [.ref 82, l1] (st) X Q = WP d 160 62 [.ref 82, l1] (.ref 82 :: st) X Q := w_aload_n (by rfl) rfl (by decide)
theorem s160_62 {l0 l1 : Value} (hN : 82 < N) : WP d 160 62 [l0, l1] (.ref 82 :: st) (N, L, M) Q = WP d 160 65 [l0, l1] (M 82 7 :: st) (N, L, M) Q := w_getf (by rfl) (by rfl) hN (by decide) (by rfl)
theorem s160_65 {l0 : Value} {z1 : Int} : WP d 160 65 [l0, vI z1] (st) X Q = WP d 160 66 [l0, vI z1] (vI z1 :: st) X Q := w_iload_n (by rfl) rfl
theorem s160_66 {l0 l1 : Value} {j1 : Int} (hj : 0 ≤ j1 ∧ j1 < 4) (hN : 87 < N) : WP d 160 66 [l0, l1] (vI j1 :: .ref 87 :: st) (N, L, M) Q = WP d 160 67 [l0, l1] (M 87 j1.toNat :: st) (N, L, M) Q := w_iald (by rfl) (m := 4) (by rfl) hN (by decide) hj (by decide)
theorem s160_67 {l0 l1 : Value} {j1 : Int} {z2 : Int} (hj : 0 ≤ j1 ∧ j1 < 4) (hN : 99 < N) : WP d 160 67 [l0, l1] (vI z2 :: vI j1 :: .ref 99 :: st) (N, L, M) Q = WP d 160 68 [l0, l1] (st) (N, L, up M 99 j1.toNat (vI z2)) Q := w_iast (by rfl) (m := 4) (by rfl) hN hj (by decide)
theorem s160_68 {z1 : Int} {b2 : Nat} : WP d 160 68 [.ref b2, vI z1] (st) X Q = WP d 160 71 [.ref b2, vI (z1 + 1)] (st) X Q := w_iinc (by rfl) rfl (q_okb_s rfl rfl) (Nat.le_of_ble_eq_true rfl) rfl
theorem s160_71 {l0 l1 : Value}  : WP d 160 71 [l0, l1] (st) X Q = WP d 160 51 [l0, l1] (st) X Q := w_goto (by rfl) (by decide)
theorem s160_74 {l0 l1 : Value}  : WP d 160 74 [l0, l1] ([]) X Q = Q none X := w_vret (by rfl) (by rfl)
/-! 161 BellsThatEatModel.putBack -/
theorem e161 {d : Nat} {X : q_H}  {r : Option Value} {X' : q_H} (hd : 1 ≤ d) (h : WP (d - 1) 161 0 [.ref 82, .null] [] X (fun r1 X1 => r1 = r ∧ X1 = X')) : Sp d 161 [.ref 82] X r X' := Sp.of1 hd (vs := [.ref 82]) (ls := [.ref 82, .null]) (by rfl) (by rfl) h
theorem E161 {d : Nat} {X : q_H}  {Q : Option Value → q_H → Prop} (hd : 1 ≤ d) (h : WP (d - 1) 161 0 [.ref 82, .null] [] X Q) : ∃ r X', Sp d 161 [.ref 82] X r X' ∧ Q r X' := Sp.of2 hd (vs := [.ref 82]) (ls := [.ref 82, .null]) (by rfl) (by rfl) h
theorem s161_0 {l1 : Value}  : WP d 161 0 [.ref 82, l1] (st) X Q = WP d 161 1 [.ref 82, l1] (.ref 82 :: st) X Q := w_aload_n (by rfl) rfl (by decide)
theorem s161_1 {l0 l1 : Value}  : WP d 161 1 [l0, l1] (st) X Q = WP d 161 3 [l0, l1] (vI (99999) :: st) X Q := w_ldc (m := 0) (by rfl) (z := 99999) (by rfl)
theorem s161_3 {l0 l1 : Value} {z1 : Int} (hN : 82 < N) : WP d 161 3 [l0, l1] (vI z1 :: .ref 82 :: st) (N, L, M) Q = WP d 161 6 [l0, l1] (st) (N, L, up M 82 26 (vI z1)) Q := w_putf (ci := 9) (by rfl) (by rfl) (by decide) hN (by rfl) (q_fit_int rfl _)
theorem s161_6 {l1 : Value}  : WP d 161 6 [.ref 82, l1] (st) X Q = WP d 161 7 [.ref 82, l1] (.ref 82 :: st) X Q := w_aload_n (by rfl) rfl (by decide)
theorem s161_7 {l1 : Value}  : WP d 161 7 [.ref 82, l1] (st) X Q = WP d 161 8 [.ref 82, l1] (.ref 82 :: st) X Q := w_aload_n (by rfl) rfl (by decide)
theorem s161_8 {l0 l1 : Value} (hN : 82 < N) : WP d 161 8 [l0, l1] (.ref 82 :: st) (N, L, M) Q = WP d 161 11 [l0, l1] (M 82 27 :: st) (N, L, M) Q := w_getf (by rfl) (by rfl) hN (by decide) (by rfl)
theorem s161_11 {l0 l1 : Value} {z1 : Int} (hN : 82 < N) : WP d 161 11 [l0, l1] (vI z1 :: .ref 82 :: st) (N, L, M) Q = WP d 161 14 [l0, l1] (st) (N, L, up M 82 1 (vI z1)) Q := w_putf (ci := 9) (by rfl) (by rfl) (by decide) hN (by rfl) (q_fit_int rfl _)
theorem s161_14 {l1 : Value}  : WP d 161 14 [.ref 82, l1] (st) X Q = WP d 161 15 [.ref 82, l1] (.ref 82 :: st) X Q := w_aload_n (by rfl) rfl (by decide)
theorem s161_15 {l1 : Value}  : WP d 161 15 [.ref 82, l1] (st) X Q = WP d 161 16 [.ref 82, l1] (.ref 82 :: st) X Q := w_aload_n (by rfl) rfl (by decide)
theorem s161_16 {l0 l1 : Value} (hN : 82 < N) : WP d 161 16 [l0, l1] (.ref 82 :: st) (N, L, M) Q = WP d 161 19 [l0, l1] (M 82 28 :: st) (N, L, M) Q := w_getf (by rfl) (by rfl) hN (by decide) (by rfl)
theorem s161_19 {l0 l1 : Value} {z1 : Int} (hN : 82 < N) : WP d 161 19 [l0, l1] (vI z1 :: .ref 82 :: st) (N, L, M) Q = WP d 161 22 [l0, l1] (st) (N, L, up M 82 2 (vI z1)) Q := w_putf (ci := 9) (by rfl) (by rfl) (by decide) hN (by rfl) (q_fit_int rfl _)
theorem s161_22 {l0 l1 : Value}  : WP d 161 22 [l0, l1] (st) X Q = WP d 161 23 [l0, l1] (vI (0) :: st) X Q := w_iconst (by rfl)
theorem s161_23 {l1 : Value} {b1 : Nat} {z2 : Int} : WP d 161 23 [.ref b1, l1] (vI z2 :: st) X Q = WP d 161 24 [.ref b1, vI z2] (st) X Q := w_istore_n (by rfl) (q_okb_s rfl rfl) (Nat.le_of_ble_eq_true rfl) rfl
theorem s161_24 {l0 : Value} {z1 : Int} : WP d 161 24 [l0, vI z1] (st) X Q = WP d 161 25 [l0, vI z1] (vI z1 :: st) X Q := w_iload_n (by rfl) rfl
theorem s161_25 {l0 l1 : Value}  : WP d 161 25 [l0, l1] (st) X Q = WP d 161 27 [l0, l1] (vI (6) :: st) X Q := w_bipush (by rfl) (by decide)
theorem s161_27 {l0 l1 : Value} {z1 : Int} {z2 : Int} (h1 : -2147483648 ≤ z1 ∧ z1 ≤ 2147483647) (h2 : -2147483648 ≤ z2 ∧ z2 ≤ 2147483647) : WP d 161 27 [l0, l1] (vI z2 :: vI z1 :: st) X Q = if z1 < z2 then WP d 161 30 [l0, l1] (st) X Q else WP d 161 48 [l0, l1] (st) X Q := w_icmpge (by rfl) (by decide) h1 h2
theorem s161_30 {l1 : Value}  : WP d 161 30 [.ref 82, l1] (st) X Q = WP d 161 31 [.ref 82, l1] (.ref 82 :: st) X Q := w_aload_n (by rfl) rfl (by decide)
theorem s161_31 {l0 l1 : Value} (hN : 82 < N) : WP d 161 31 [l0, l1] (.ref 82 :: st) (N, L, M) Q = WP d 161 34 [l0, l1] (M 82 5 :: st) (N, L, M) Q := w_getf (by rfl) (by rfl) hN (by decide) (by rfl)
theorem s161_34 {l0 : Value} {z1 : Int} : WP d 161 34 [l0, vI z1] (st) X Q = WP d 161 35 [l0, vI z1] (vI z1 :: st) X Q := w_iload_n (by rfl) rfl
theorem s161_35 {l1 : Value}  : WP d 161 35 [.ref 82, l1] (st) X Q = WP d 161 36 [.ref 82, l1] (.ref 82 :: st) X Q := w_aload_n (by rfl) rfl (by decide)
theorem s161_36 {l0 l1 : Value} (hN : 82 < N) : WP d 161 36 [l0, l1] (.ref 82 :: st) (N, L, M) Q = WP d 161 39 [l0, l1] (M 82 29 :: st) (N, L, M) Q := w_getf (by rfl) (by rfl) hN (by decide) (by rfl)
theorem s161_39 {l0 : Value} {z1 : Int} : WP d 161 39 [l0, vI z1] (st) X Q = WP d 161 40 [l0, vI z1] (vI z1 :: st) X Q := w_iload_n (by rfl) rfl
theorem s161_40 {l0 l1 : Value} {j1 : Int} (hj : 0 ≤ j1 ∧ j1 < 6) (hN : 98 < N) : WP d 161 40 [l0, l1] (vI j1 :: .ref 98 :: st) (N, L, M) Q = WP d 161 41 [l0, l1] (M 98 j1.toNat :: st) (N, L, M) Q := w_iald (by rfl) (m := 6) (by rfl) hN (by decide) hj (by decide)
theorem s161_41 {l0 l1 : Value} {j1 : Int} {z2 : Int} (hj : 0 ≤ j1 ∧ j1 < 6) (hN : 85 < N) : WP d 161 41 [l0, l1] (vI z2 :: vI j1 :: .ref 85 :: st) (N, L, M) Q = WP d 161 42 [l0, l1] (st) (N, L, up M 85 j1.toNat (vI z2)) Q := w_iast (by rfl) (m := 6) (by rfl) hN hj (by decide)
theorem s161_42 {z1 : Int} {b2 : Nat} : WP d 161 42 [.ref b2, vI z1] (st) X Q = WP d 161 45 [.ref b2, vI (z1 + 1)] (st) X Q := w_iinc (by rfl) rfl (q_okb_s rfl rfl) (Nat.le_of_ble_eq_true rfl) rfl
theorem s161_45 {l0 l1 : Value}  : WP d 161 45 [l0, l1] (st) X Q = WP d 161 24 [l0, l1] (st) X Q := w_goto (by rfl) (by decide)
theorem s161_48 {l0 l1 : Value}  : WP d 161 48 [l0, l1] (st) X Q = WP d 161 49 [l0, l1] (vI (0) :: st) X Q := w_iconst (by rfl)
theorem s161_49 {l1 : Value} {b1 : Nat} {z2 : Int} : WP d 161 49 [.ref b1, l1] (vI z2 :: st) X Q = WP d 161 50 [.ref b1, vI z2] (st) X Q := w_istore_n (by rfl) (q_okb_s rfl rfl) (Nat.le_of_ble_eq_true rfl) rfl
theorem s161_50 {l0 : Value} {z1 : Int} : WP d 161 50 [l0, vI z1] (st) X Q = WP d 161 51 [l0, vI z1] (vI z1 :: st) X Q := w_iload_n (by rfl) rfl
theorem s161_51 {l0 l1 : Value}  : WP d 161 51 [l0, l1] (st) X Q = WP d 161 52 [l0, l1] (vI (4) :: st) X Q := w_iconst (by rfl)
theorem s161_52 {l0 l1 : Value} {z1 : Int} {z2 : Int} (h1 : -2147483648 ≤ z1 ∧ z1 ≤ 2147483647) (h2 : -2147483648 ≤ z2 ∧ z2 ≤ 2147483647) : WP d 161 52 [l0, l1] (vI z2 :: vI z1 :: st) X Q = if z1 < z2 then WP d 161 55 [l0, l1] (st) X Q else WP d 161 73 [l0, l1] (st) X Q := w_icmpge (by rfl) (by decide) h1 h2
theorem s161_55 {l1 : Value}  : WP d 161 55 [.ref 82, l1] (st) X Q = WP d 161 56 [.ref 82, l1] (.ref 82 :: st) X Q := w_aload_n (by rfl) rfl (by decide)
theorem s161_56 {l0 l1 : Value} (hN : 82 < N) : WP d 161 56 [l0, l1] (.ref 82 :: st) (N, L, M) Q = WP d 161 59 [l0, l1] (M 82 7 :: st) (N, L, M) Q := w_getf (by rfl) (by rfl) hN (by decide) (by rfl)
theorem s161_59 {l0 : Value} {z1 : Int} : WP d 161 59 [l0, vI z1] (st) X Q = WP d 161 60 [l0, vI z1] (vI z1 :: st) X Q := w_iload_n (by rfl) rfl
theorem s161_60 {l1 : Value}  : WP d 161 60 [.ref 82, l1] (st) X Q = WP d 161 61 [.ref 82, l1] (.ref 82 :: st) X Q := w_aload_n (by rfl) rfl (by decide)
theorem s161_61 {l0 l1 : Value} (hN : 82 < N) : WP d 161 61 [l0, l1] (.ref 82 :: st) (N, L, M) Q = WP d 161 64 [l0, l1] (M 82 30 :: st) (N, L, M) Q := w_getf (by rfl) (by rfl) hN (by decide) (by rfl)
theorem s161_64 {l0 : Value} {z1 : Int} : WP d 161 64 [l0, vI z1] (st) X Q = WP d 161 65 [l0, vI z1] (vI z1 :: st) X Q := w_iload_n (by rfl) rfl
theorem s161_65 {l0 l1 : Value} {j1 : Int} (hj : 0 ≤ j1 ∧ j1 < 4) (hN : 99 < N) : WP d 161 65 [l0, l1] (vI j1 :: .ref 99 :: st) (N, L, M) Q = WP d 161 66 [l0, l1] (M 99 j1.toNat :: st) (N, L, M) Q := w_iald (by rfl) (m := 4) (by rfl) hN (by decide) hj (by decide)
theorem s161_66 {l0 l1 : Value} {j1 : Int} {z2 : Int} (hj : 0 ≤ j1 ∧ j1 < 4) (hN : 87 < N) : WP d 161 66 [l0, l1] (vI z2 :: vI j1 :: .ref 87 :: st) (N, L, M) Q = WP d 161 67 [l0, l1] (st) (N, L, up M 87 j1.toNat (vI z2)) Q := w_iast (by rfl) (m := 4) (by rfl) hN hj (by decide)
theorem s161_67 {z1 : Int} {b2 : Nat} : WP d 161 67 [.ref b2, vI z1] (st) X Q = WP d 161 70 [.ref b2, vI (z1 + 1)] (st) X Q := w_iinc (by rfl) rfl (q_okb_s rfl rfl) (Nat.le_of_ble_eq_true rfl) rfl
theorem s161_70 {l0 l1 : Value}  : WP d 161 70 [l0, l1] (st) X Q = WP d 161 50 [l0, l1] (st) X Q := w_goto (by rfl) (by decide)
theorem s161_73 {l0 l1 : Value}  : WP d 161 73 [l0, l1] ([]) X Q = Q none X := w_vret (by rfl) (by rfl)
/-! 162 BellsThatEatModel.on -/
theorem e162 {d : Nat} {X : q_H} {z1 : Int} {z2 : Int} {r : Option Value} {X' : q_H} (hd : 1 ≤ d) (h : WP (d - 1) 162 0 [.ref 82, vI z1, vI z2, .null] [] X (fun r1 X1 => r1 = r ∧ X1 = X')) : Sp d 162 [.ref 82, vI z1, vI z2] X r X' := Sp.of1 hd (vs := [.ref 82, vI z1, vI z2]) (ls := [.ref 82, vI z1, vI z2, .null]) (by rfl) (by rfl) h
theorem E162 {d : Nat} {X : q_H} {z1 : Int} {z2 : Int} {Q : Option Value → q_H → Prop} (hd : 1 ≤ d) (h : WP (d - 1) 162 0 [.ref 82, vI z1, vI z2, .null] [] X Q) : ∃ r X', Sp d 162 [.ref 82, vI z1, vI z2] X r X' ∧ Q r X' := Sp.of2 hd (vs := [.ref 82, vI z1, vI z2]) (ls := [.ref 82, vI z1, vI z2, .null]) (by rfl) (by rfl) h
theorem s162_0 {l0 l1 l3 : Value} {z1 : Int} : WP d 162 0 [l0, l1, vI z1, l3] (st) X Q = WP d 162 1 [l0, l1, vI z1, l3] (vI z1 :: st) X Q := w_iload_n (by rfl) rfl
theorem s162_1 {l0 l1 l2 l3 : Value} {z1 : Int} (h1 : -2147483648 ≤ z1 ∧ z1 ≤ 2147483647) : WP d 162 1 [l0, l1, l2, l3] (vI z1 :: st) X Q = if z1 = 0 then WP d 162 35 [l0, l1, l2, l3] (st) X Q else WP d 162 4 [l0, l1, l2, l3] (st) X Q := w_ifeq (by rfl) (by decide) h1
theorem s162_1b {l0 l1 l2 l3 : Value} {P : Prop} [Decidable P] : WP d 162 1 [l0, l1, l2, l3] (vI (bI P) :: st) X Q = if P then WP d 162 4 [l0, l1, l2, l3] (st) X Q else WP d 162 35 [l0, l1, l2, l3] (st) X Q := w_ifeqb (by rfl) (by decide)
theorem s162_4 {l1 l2 l3 : Value}  : WP d 162 4 [.ref 82, l1, l2, l3] (st) X Q = WP d 162 5 [.ref 82, l1, l2, l3] (.ref 82 :: st) X Q := w_aload_n (by rfl) rfl (by decide)
theorem s162_5 {l0 l1 l3 : Value} {z1 : Int} : WP d 162 5 [l0, l1, vI z1, l3] (st) X Q = WP d 162 6 [l0, l1, vI z1, l3] (vI z1 :: st) X Q := w_iload_n (by rfl) rfl
theorem s162_6 {l0 l1 l2 l3 : Value}  : WP d 162 6 [l0, l1, l2, l3] (st) X Q = WP d 162 8 [l0, l1, l2, l3] (vI (10) :: st) X Q := w_bipush (by rfl) (by decide)
theorem s162_8 {l0 l1 l2 l3 : Value}  : WP d 162 8 [l0, l1, l2, l3] (st) X Q = WP d 162 10 [l0, l1, l2, l3] (vI (9) :: st) X Q := w_bipush (by rfl) (by decide)
theorem s162_10 {l1 l2 l3 : Value}  : WP d 162 10 [.ref 82, l1, l2, l3] (st) X Q = WP d 162 11 [.ref 82, l1, l2, l3] (.ref 82 :: st) X Q := w_aload_n (by rfl) rfl (by decide)
theorem s162_11 {l0 l1 l2 l3 : Value} (hN : 82 < N) : WP d 162 11 [l0, l1, l2, l3] (.ref 82 :: st) (N, L, M) Q = WP d 162 14 [l0, l1, l2, l3] (M 82 0 :: st) (N, L, M) Q := w_getf (by rfl) (by rfl) hN (by decide) (by rfl)
theorem s162_14 {l0 l1 l2 l3 : Value} {z1 : Int} {z2 : Int} : WP d 162 14 [l0, l1, l2, l3] (vI z2 :: vI z1 :: st) X Q = WP d 162 15 [l0, l1, l2, l3] (vI (z1 + z2) :: st) X Q := w_iadd (by rfl)
theorem c162_15 {l0 l1 l2 l3 : Value} {z1 : Int} {z2 : Int} {z3 : Int} {r : Int} {X' : q_H} (hN : 82 < N) (hS : Sp d 109 [.ref 82, vI z1, vI z2, vI z3] (N, L, M) (some (vI r)) X') : WP d 162 15 [l0, l1, l2, l3] (vI z3 :: vI z2 :: vI z1 :: .ref 82 :: []) (N, L, M) Q = WP d 162 18 [l0, l1, l2, l3] (vI r :: []) X' Q := w_callv (vs := [vI z1, vI z2, vI z3]) (by rfl) (by rfl) rfl (Nat.le_of_ble_eq_true rfl) (kd := 9) (by rfl) (by decide) (Or.inl hN) (by rfl) hS
theorem s162_18 {l0 l1 l2 l3 : Value} {z1 : Int} (h1 : -2147483648 ≤ z1 ∧ z1 ≤ 2147483647) : WP d 162 18 [l0, l1, l2, l3] (vI z1 :: st) X Q = if z1 = 0 then WP d 162 21 [l0, l1, l2, l3] (st) X Q else WP d 162 35 [l0, l1, l2, l3] (st) X Q := w_ifne (by rfl) (by decide) h1
theorem s162_18b {l0 l1 l2 l3 : Value} {P : Prop} [Decidable P] : WP d 162 18 [l0, l1, l2, l3] (vI (bI P) :: st) X Q = if P then WP d 162 35 [l0, l1, l2, l3] (st) X Q else WP d 162 21 [l0, l1, l2, l3] (st) X Q := w_ifneb (by rfl) (by decide)
theorem s162_21 {l1 l2 l3 : Value}  : WP d 162 21 [.ref 82, l1, l2, l3] (st) X Q = WP d 162 22 [.ref 82, l1, l2, l3] (.ref 82 :: st) X Q := w_aload_n (by rfl) rfl (by decide)
theorem s162_22 {l0 l1 l3 : Value} {z1 : Int} : WP d 162 22 [l0, l1, vI z1, l3] (st) X Q = WP d 162 23 [l0, l1, vI z1, l3] (vI z1 :: st) X Q := w_iload_n (by rfl) rfl
theorem s162_23 {l0 l1 l2 l3 : Value}  : WP d 162 23 [l0, l1, l2, l3] (st) X Q = WP d 162 25 [l0, l1, l2, l3] (vI (20) :: st) X Q := w_bipush (by rfl) (by decide)
theorem s162_25 {l0 l1 l2 l3 : Value}  : WP d 162 25 [l0, l1, l2, l3] (st) X Q = WP d 162 27 [l0, l1, l2, l3] (vI (23) :: st) X Q := w_bipush (by rfl) (by decide)
theorem c162_27 {l0 l1 l2 l3 : Value} {z1 : Int} {z2 : Int} {z3 : Int} {r : Int} {X' : q_H} (hN : 82 < N) (hS : Sp d 109 [.ref 82, vI z1, vI z2, vI z3] (N, L, M) (some (vI r)) X') : WP d 162 27 [l0, l1, l2, l3] (vI z3 :: vI z2 :: vI z1 :: .ref 82 :: []) (N, L, M) Q = WP d 162 30 [l0, l1, l2, l3] (vI r :: []) X' Q := w_callv (vs := [vI z1, vI z2, vI z3]) (by rfl) (by rfl) rfl (Nat.le_of_ble_eq_true rfl) (kd := 9) (by rfl) (by decide) (Or.inl hN) (by rfl) hS
theorem s162_30 {l0 l1 l2 l3 : Value} {z1 : Int} (h1 : -2147483648 ≤ z1 ∧ z1 ≤ 2147483647) : WP d 162 30 [l0, l1, l2, l3] (vI z1 :: st) X Q = if z1 = 0 then WP d 162 33 [l0, l1, l2, l3] (st) X Q else WP d 162 35 [l0, l1, l2, l3] (st) X Q := w_ifne (by rfl) (by decide) h1
theorem s162_30b {l0 l1 l2 l3 : Value} {P : Prop} [Decidable P] : WP d 162 30 [l0, l1, l2, l3] (vI (bI P) :: st) X Q = if P then WP d 162 35 [l0, l1, l2, l3] (st) X Q else WP d 162 33 [l0, l1, l2, l3] (st) X Q := w_ifneb (by rfl) (by decide)
theorem s162_33 {l0 l1 l2 l3 : Value}  : WP d 162 33 [l0, l1, l2, l3] (st) X Q = WP d 162 34 [l0, l1, l2, l3] (vI (-1) :: st) X Q := w_iconst (by rfl)
theorem s162_34 {l0 l1 l2 l3 : Value} {z1 : Int} : WP d 162 34 [l0, l1, l2, l3] (vI z1 :: []) X Q = Q (some (vI z1)) X := w_ireti (by rfl) (by rfl)
theorem s162_35 {l1 l2 l3 : Value}  : WP d 162 35 [.ref 82, l1, l2, l3] (st) X Q = WP d 162 36 [.ref 82, l1, l2, l3] (.ref 82 :: st) X Q := w_aload_n (by rfl) rfl (by decide)
theorem s162_36 {l0 l2 l3 : Value} {z1 : Int} : WP d 162 36 [l0, vI z1, l2, l3] (st) X Q = WP d 162 37 [l0, vI z1, l2, l3] (vI z1 :: st) X Q := w_iload_n (by rfl) rfl
theorem c162_37 {l0 l1 l2 l3 : Value} {z1 : Int} {r : Int} {X' : q_H} (hN : 82 < N) (hS : Sp d 116 [.ref 82, vI z1] (N, L, M) (some (vI r)) X') : WP d 162 37 [l0, l1, l2, l3] (vI z1 :: .ref 82 :: []) (N, L, M) Q = WP d 162 40 [l0, l1, l2, l3] (vI r :: []) X' Q := w_callv (vs := [vI z1]) (by rfl) (by rfl) rfl (Nat.le_of_ble_eq_true rfl) (kd := 9) (by rfl) (by decide) (Or.inl hN) (by rfl) hS
theorem s162_40 {l0 l1 l2 l3 : Value} {z1 : Int} (h1 : -2147483648 ≤ z1 ∧ z1 ≤ 2147483647) : WP d 162 40 [l0, l1, l2, l3] (vI z1 :: st) X Q = if z1 = 0 then WP d 162 43 [l0, l1, l2, l3] (st) X Q else WP d 162 46 [l0, l1, l2, l3] (st) X Q := w_ifne (by rfl) (by decide) h1
theorem s162_40b {l0 l1 l2 l3 : Value} {P : Prop} [Decidable P] : WP d 162 40 [l0, l1, l2, l3] (vI (bI P) :: st) X Q = if P then WP d 162 46 [l0, l1, l2, l3] (st) X Q else WP d 162 43 [l0, l1, l2, l3] (st) X Q := w_ifneb (by rfl) (by decide)
theorem s162_43 {l0 l1 l2 l3 : Value}  : WP d 162 43 [l0, l1, l2, l3] (st) X Q = WP d 162 45 [l0, l1, l2, l3] (vI (-2) :: st) X Q := w_bipush (by rfl) (by decide)
theorem s162_45 {l0 l1 l2 l3 : Value} {z1 : Int} : WP d 162 45 [l0, l1, l2, l3] (vI z1 :: []) X Q = Q (some (vI z1)) X := w_ireti (by rfl) (by rfl)
theorem s162_46 {l1 l2 l3 : Value}  : WP d 162 46 [.ref 82, l1, l2, l3] (st) X Q = WP d 162 47 [.ref 82, l1, l2, l3] (.ref 82 :: st) X Q := w_aload_n (by rfl) rfl (by decide)
theorem c162_47 {l0 l1 l2 l3 : Value} {X' : q_H} (hN : 82 < N) (hS : Sp d 160 [.ref 82] (N, L, M) none X') : WP d 162 47 [l0, l1, l2, l3] (.ref 82 :: []) (N, L, M) Q = WP d 162 50 [l0, l1, l2, l3] ([]) X' Q := w_callv (vs := []) (by rfl) (by rfl) rfl (Nat.le_of_ble_eq_true rfl) (kd := 9) (by rfl) (by decide) (Or.inl hN) (by rfl) hS
theorem s162_50 {l1 l2 l3 : Value}  : WP d 162 50 [.ref 82, l1, l2, l3] (st) X Q = WP d 162 51 [.ref 82, l1, l2, l3] (.ref 82 :: st) X Q := w_aload_n (by rfl) rfl (by decide)
theorem s162_51 {l0 l2 l3 : Value} {z1 : Int} : WP d 162 51 [l0, vI z1, l2, l3] (st) X Q = WP d 162 52 [l0, vI z1, l2, l3] (vI z1 :: st) X Q := w_iload_n (by rfl) rfl
theorem c162_52 {l0 l1 l2 l3 : Value} {z1 : Int} {X' : q_H} (hN : 82 < N) (hS : Sp d 156 [.ref 82, vI z1] (N, L, M) none X') : WP d 162 52 [l0, l1, l2, l3] (vI z1 :: .ref 82 :: []) (N, L, M) Q = WP d 162 55 [l0, l1, l2, l3] ([]) X' Q := w_callv (vs := [vI z1]) (by rfl) (by rfl) rfl (Nat.le_of_ble_eq_true rfl) (kd := 9) (by rfl) (by decide) (Or.inl hN) (by rfl) hS
theorem s162_55 {l0 l1 l3 : Value} {z1 : Int} : WP d 162 55 [l0, l1, vI z1, l3] (st) X Q = WP d 162 56 [l0, l1, vI z1, l3] (vI z1 :: st) X Q := w_iload_n (by rfl) rfl
theorem s162_56 {l0 l1 l2 l3 : Value} {z1 : Int} (h1 : -2147483648 ≤ z1 ∧ z1 ≤ 2147483647) : WP d 162 56 [l0, l1, l2, l3] (vI z1 :: st) X Q = if z1 = 0 then WP d 162 59 [l0, l1, l2, l3] (st) X Q else WP d 162 66 [l0, l1, l2, l3] (st) X Q := w_ifne (by rfl) (by decide) h1
theorem s162_56b {l0 l1 l2 l3 : Value} {P : Prop} [Decidable P] : WP d 162 56 [l0, l1, l2, l3] (vI (bI P) :: st) X Q = if P then WP d 162 66 [l0, l1, l2, l3] (st) X Q else WP d 162 59 [l0, l1, l2, l3] (st) X Q := w_ifneb (by rfl) (by decide)
theorem s162_59 {l1 l2 l3 : Value}  : WP d 162 59 [.ref 82, l1, l2, l3] (st) X Q = WP d 162 60 [.ref 82, l1, l2, l3] (.ref 82 :: st) X Q := w_aload_n (by rfl) rfl (by decide)
theorem c162_60 {l0 l1 l2 l3 : Value} {r : Int} {X' : q_H} (hN : 82 < N) (hS : Sp d 150 [.ref 82] (N, L, M) (some (vI r)) X') : WP d 162 60 [l0, l1, l2, l3] (.ref 82 :: []) (N, L, M) Q = WP d 162 63 [l0, l1, l2, l3] (vI r :: []) X' Q := w_callv (vs := []) (by rfl) (by rfl) rfl (Nat.le_of_ble_eq_true rfl) (kd := 9) (by rfl) (by decide) (Or.inl hN) (by rfl) hS
theorem s162_63 {l0 l1 l2 l3 : Value}  : WP d 162 63 [l0, l1, l2, l3] (st) X Q = WP d 162 93 [l0, l1, l2, l3] (st) X Q := w_goto (by rfl) (by decide)
theorem s162_66 {l0 l1 l3 : Value} {z1 : Int} : WP d 162 66 [l0, l1, vI z1, l3] (st) X Q = WP d 162 67 [l0, l1, vI z1, l3] (vI z1 :: st) X Q := w_iload_n (by rfl) rfl
theorem s162_67 {l0 l1 l2 l3 : Value}  : WP d 162 67 [l0, l1, l2, l3] (st) X Q = WP d 162 69 [l0, l1, l2, l3] (vI (20) :: st) X Q := w_bipush (by rfl) (by decide)
theorem s162_69 {l0 l1 l2 l3 : Value} {z1 : Int} {z2 : Int} (h1 : -2147483648 ≤ z1 ∧ z1 ≤ 2147483647) (h2 : -2147483648 ≤ z2 ∧ z2 ≤ 2147483647) : WP d 162 69 [l0, l1, l2, l3] (vI z2 :: vI z1 :: st) X Q = if z1 < z2 then WP d 162 72 [l0, l1, l2, l3] (st) X Q else WP d 162 84 [l0, l1, l2, l3] (st) X Q := w_icmpge (by rfl) (by decide) h1 h2
theorem s162_72 {l1 l2 l3 : Value}  : WP d 162 72 [.ref 82, l1, l2, l3] (st) X Q = WP d 162 73 [.ref 82, l1, l2, l3] (.ref 82 :: st) X Q := w_aload_n (by rfl) rfl (by decide)
theorem s162_73 {l0 l1 l2 l3 : Value} (hN : 82 < N) : WP d 162 73 [l0, l1, l2, l3] (.ref 82 :: st) (N, L, M) Q = WP d 162 76 [l0, l1, l2, l3] (M 82 5 :: st) (N, L, M) Q := w_getf (by rfl) (by rfl) hN (by decide) (by rfl)
theorem s162_76 {l0 l1 l3 : Value} {z1 : Int} : WP d 162 76 [l0, l1, vI z1, l3] (st) X Q = WP d 162 77 [l0, l1, vI z1, l3] (vI z1 :: st) X Q := w_iload_n (by rfl) rfl
theorem s162_77 {l0 l1 l2 l3 : Value}  : WP d 162 77 [l0, l1, l2, l3] (st) X Q = WP d 162 79 [l0, l1, l2, l3] (vI (10) :: st) X Q := w_bipush (by rfl) (by decide)
theorem s162_79 {l0 l1 l2 l3 : Value} {z1 : Int} {z2 : Int} : WP d 162 79 [l0, l1, l2, l3] (vI z2 :: vI z1 :: st) X Q = WP d 162 80 [l0, l1, l2, l3] (vI (z1 - z2) :: st) X Q := w_isub (by rfl)
theorem s162_80 {l0 l1 l2 l3 : Value} {j1 : Int} (hj : 0 ≤ j1 ∧ j1 < 6) (hN : 85 < N) : WP d 162 80 [l0, l1, l2, l3] (vI j1 :: .ref 85 :: st) (N, L, M) Q = WP d 162 81 [l0, l1, l2, l3] (M 85 j1.toNat :: st) (N, L, M) Q := w_iald (by rfl) (m := 6) (by rfl) hN (by decide) hj (by decide)
theorem s162_81 {l0 l1 l2 l3 : Value}  : WP d 162 81 [l0, l1, l2, l3] (st) X Q = WP d 162 93 [l0, l1, l2, l3] (st) X Q := w_goto (by rfl) (by decide)
theorem s162_84 {l1 l2 l3 : Value}  : WP d 162 84 [.ref 82, l1, l2, l3] (st) X Q = WP d 162 85 [.ref 82, l1, l2, l3] (.ref 82 :: st) X Q := w_aload_n (by rfl) rfl (by decide)
theorem s162_85 {l0 l1 l2 l3 : Value} (hN : 82 < N) : WP d 162 85 [l0, l1, l2, l3] (.ref 82 :: st) (N, L, M) Q = WP d 162 88 [l0, l1, l2, l3] (M 82 7 :: st) (N, L, M) Q := w_getf (by rfl) (by rfl) hN (by decide) (by rfl)
theorem s162_88 {l0 l1 l3 : Value} {z1 : Int} : WP d 162 88 [l0, l1, vI z1, l3] (st) X Q = WP d 162 89 [l0, l1, vI z1, l3] (vI z1 :: st) X Q := w_iload_n (by rfl) rfl
theorem s162_89 {l0 l1 l2 l3 : Value}  : WP d 162 89 [l0, l1, l2, l3] (st) X Q = WP d 162 91 [l0, l1, l2, l3] (vI (20) :: st) X Q := w_bipush (by rfl) (by decide)
theorem s162_91 {l0 l1 l2 l3 : Value} {z1 : Int} {z2 : Int} : WP d 162 91 [l0, l1, l2, l3] (vI z2 :: vI z1 :: st) X Q = WP d 162 92 [l0, l1, l2, l3] (vI (z1 - z2) :: st) X Q := w_isub (by rfl)
theorem s162_92 {l0 l1 l2 l3 : Value} {j1 : Int} (hj : 0 ≤ j1 ∧ j1 < 4) (hN : 87 < N) : WP d 162 92 [l0, l1, l2, l3] (vI j1 :: .ref 87 :: st) (N, L, M) Q = WP d 162 93 [l0, l1, l2, l3] (M 87 j1.toNat :: st) (N, L, M) Q := w_iald (by rfl) (m := 4) (by rfl) hN (by decide) hj (by decide)
theorem s162_93 {l0 l1 l3 : Value} {z1 : Int} {z2 : Int} : WP d 162 93 [l0, l1, vI z1, l3] (vI z2 :: st) X Q = WP d 162 94 [l0, l1, vI z1, vI z2] (st) X Q := w_istore_n (by rfl) (q_okb_s rfl rfl) (Nat.le_of_ble_eq_true rfl) rfl
theorem s162_94 {l1 l2 l3 : Value}  : WP d 162 94 [.ref 82, l1, l2, l3] (st) X Q = WP d 162 95 [.ref 82, l1, l2, l3] (.ref 82 :: st) X Q := w_aload_n (by rfl) rfl (by decide)
theorem c162_95 {l0 l1 l2 l3 : Value} {X' : q_H} (hN : 82 < N) (hS : Sp d 161 [.ref 82] (N, L, M) none X') : WP d 162 95 [l0, l1, l2, l3] (.ref 82 :: []) (N, L, M) Q = WP d 162 98 [l0, l1, l2, l3] ([]) X' Q := w_callv (vs := []) (by rfl) (by rfl) rfl (Nat.le_of_ble_eq_true rfl) (kd := 9) (by rfl) (by decide) (Or.inl hN) (by rfl) hS
theorem s162_98 {l0 l1 l2 : Value} {z1 : Int} : WP d 162 98 [l0, l1, l2, vI z1] (st) X Q = WP d 162 99 [l0, l1, l2, vI z1] (vI z1 :: st) X Q := w_iload_n (by rfl) rfl
theorem s162_99 {l0 l1 l2 l3 : Value} {z1 : Int} : WP d 162 99 [l0, l1, l2, l3] (vI z1 :: []) X Q = Q (some (vI z1)) X := w_ireti (by rfl) (by rfl)
end
