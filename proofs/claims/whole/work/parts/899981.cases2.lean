/-! the calls of the law whose frames are their own -/
theorem r87_c {K K' : Nat → Int} {r : Nat} {i : Int} (h : ∀ k, k < r → K k = K' k) : r87 K (r : Int) i = r87 K' (r : Int) i := by
  unfold r87
  by_cases c : 0 ≤ i ∧ i < (r : Int) ∧ i < 20
  · rw [if_pos c, if_pos c, h _ (by omega)]
  · rw [if_neg c, if_neg c]
theorem case33 {d L i N : Nat} {B : q_Bv} {G : q_Gi} {xs : Nat → Int32} {Q : Option Value → q_H → Prop} (hd : 40 ≤ d) (hi : i + 6 ≤ L) (hL : L ≤ 3072) (h : INV xs N B G) (hn : ∀ (N' : Nat) (B' : q_Bv) (G' : q_Gi), INV xs N' B' G' → WP d 222 1421 [.ref 1000, .ref 0, .ref 82, vI (i : Int)] [] (hp N' L B' G') Q) : WP d 222 1129 [.ref 1000, .ref 0, .ref 82, vI (i : Int)] [] (hp N L B G) Q := by
  obtain ⟨H, P, T, tl, n, nx, uc, a, th, rcs, s, I, J, ti, hc, hm, hp', hb⟩ := h
  have e1 : ((i : Int) + 1).toNat = i + 1 := by omega
  have e2 : ((i : Int) + 2).toNat = i + 2 := by omega
  have e3 : ((i : Int) + 3).toNat = i + 3 := by omega
  have e4 : ((i : Int) + 4).toNat = i + 4 := by omega
  have e5 : ((i : Int) + 5).toNat = i + 5 := by omega
  obtain ⟨a1, a2, a3⟩ := hc.2.2.2.1
  obtain ⟨b1, b2, b3⟩ := hm.2.2.2.1
  have s1 := sp87 (d := d) (N := N) (L := L) (B := B) (G := G) (i := (xs (i + 1)).toInt) (by omega) (by omega) (xr _)
  have s2 := sp198 (d := d) (N := N) (L := L) (B := B) (G := G) (i := (xs (i + 1)).toInt) (by omega) (by omega) (xr _)
  rw [a1] at s1
  rw [b1, r87_c (K' := G 63) (fun k hk => by rw [b2 k hk, a2 k hk])] at s2
  have := hn N B G ⟨H, P, T, tl, n, nx, uc, a, th, rcs, s, I, J, ti, hc, hm, hp', hb⟩
  simp (disch := omega) only [s222_1129, s222_1130, s222_1131, s222_1132, s222_1133, m222_1134, s222_1138, s222_1139, s222_1140, s222_1141, s222_1142, m222_1143, Int.toNat_natCast, Int.toNat_natCast, Nat.reduceAdd, Nat.reduceMul, Int.reduceToNat, Int.reduceAdd, Int.reduceLT, Int.reduceLE, Int.reduceEq, Int.reduceNeg, Int.reduceMul, Int.reduceSub, Nat.reduceSub, reduceIte, ite_true, ite_false, and_true, true_and, and_self, hb, e1, e2, e3, e4, e5, m222_1135 s1, m222_1144 s2, k222_1147]
  exact this
theorem case35 {d L i N : Nat} {B : q_Bv} {G : q_Gi} {xs : Nat → Int32} {Q : Option Value → q_H → Prop} (hd : 40 ≤ d) (hi : i + 6 ≤ L) (hL : L ≤ 3072) (h : INV xs N B G) (hn : ∀ (N' : Nat) (B' : q_Bv) (G' : q_Gi), INV xs N' B' G' → WP d 222 1421 [.ref 1000, .ref 0, .ref 82, vI (i : Int)] [] (hp N' L B' G') Q) : WP d 222 1185 [.ref 1000, .ref 0, .ref 82, vI (i : Int)] [] (hp N L B G) Q := by
  obtain ⟨H, P, T, tl, n, nx, uc, a, th, rcs, s, I, J, ti, hc, hm, hp', hb⟩ := h
  have e1 : ((i : Int) + 1).toNat = i + 1 := by omega
  have e2 : ((i : Int) + 2).toNat = i + 2 := by omega
  have e3 : ((i : Int) + 3).toNat = i + 3 := by omega
  have e4 : ((i : Int) + 4).toNat = i + 4 := by omega
  have e5 : ((i : Int) + 5).toNat = i + 5 := by omega
  have s1 := sp89 (d := d) (N := N) (L := L) (B := B) (w := (xs (i + 1)).toInt) (by omega) hc.1.1 hc.2.1 (xr _)
  have s2 := sp200 (d := d) (N := N) (L := L) (B := B) (w := (xs (i + 1)).toInt) (by omega) hm.1.1 hm.2.1 (xr _)
  rw [hc.2.2.2.1.1, hc.2.2.2.2.1.1.1, hc.2.2.2.2.2.1.1.2.2.2.1] at s1
  rw [hm.2.2.2.1.1, hm.2.2.2.2.1.1, hm.2.2.2.2.2.1.1] at s2
  have := hn N B G ⟨H, P, T, tl, n, nx, uc, a, th, rcs, s, I, J, ti, hc, hm, hp', hb⟩
  simp (disch := omega) only [s222_1185, s222_1186, s222_1187, s222_1188, s222_1189, m222_1190, s222_1194, s222_1195, s222_1196, s222_1197, s222_1198, m222_1199, Int.toNat_natCast, Int.toNat_natCast, Nat.reduceAdd, Nat.reduceMul, Int.reduceToNat, Int.reduceAdd, Int.reduceLT, Int.reduceLE, Int.reduceEq, Int.reduceNeg, Int.reduceMul, Int.reduceSub, Nat.reduceSub, reduceIte, ite_true, ite_false, and_true, true_and, and_self, hb, e1, e2, e3, e4, e5, m222_1191 s1, m222_1200 s2, k222_1203]
  exact this
theorem case30 {d L i N : Nat} {B : q_Bv} {G : q_Gi} {xs : Nat → Int32} {Q : Option Value → q_H → Prop} (hd : 40 ≤ d) (hi : i + 6 ≤ L) (hL : L ≤ 3072) (h : INV xs N B G) (hn : ∀ (N' : Nat) (B' : q_Bv) (G' : q_Gi), INV xs N' B' G' → WP d 222 1421 [.ref 1000, .ref 0, .ref 82, vI (i : Int)] [] (hp N' L B' G') Q) : WP d 222 1060 [.ref 1000, .ref 0, .ref 82, vI (i : Int)] [] (hp N L B G) Q := by
  obtain ⟨H, P, T, tl, n, nx, uc, a, th, rcs, s, I, J, ti, hc, hm, hp', hb⟩ := h
  have e1 : ((i : Int) + 1).toNat = i + 1 := by omega
  have e2 : ((i : Int) + 2).toNat = i + 2 := by omega
  have e3 : ((i : Int) + 3).toNat = i + 3 := by omega
  have e4 : ((i : Int) + 4).toNat = i + 4 := by omega
  have e5 : ((i : Int) + 5).toNat = i + 5 := by omega
  have hth := hp'.2.2.2.1
  have h6 := hp'.2.2.2.2.1
  have hu : uid th ≠ 1004 := by
    unfold uid
    split <;> omega
  obtain ⟨G1, s1, v15, u15, p1, f05, k0, f1⟩ := sp84 (d := d) (N := N) (L := L) (B := B) (by omega) hc.1.1 hc.1.2 hu hc.2.1
  have hm1 := MI_c (G' := G1) (fun c x => f1 c (by omega) (by omega) (by omega)) hm
  obtain ⟨⟨h1, h1'⟩, h2, h3, h4, h5, h6', h7⟩ := hc
  have hc1 : CI N B G1 H P T tl n nx uc a th rcs 1 H P th := ⟨⟨hv1_c (fun c x => f1 c (by omega) (by omega) (by omega)) h1, by rw [f1 1 (by omega) (by omega) (by omega)]; exact h1'⟩, pv_c (fun c x => f1 c (by omega) (by omega) (by omega)) h2, tv_c (fun c x => f1 c (by omega) (by omega) (by omega)) h3, av_c (f1 62 (by omega) (by omega) (by omega)) (f1 63 (by omega) (by omega) (by omega)) h4, cR_c (f1 56 (by omega) (by omega) (by omega)) (f1 57 (by omega) (by omega) (by omega)) h5, cU_c (k0 8 (by omega)) (f1 58 (by omega) (by omega) (by omega)) h6', f05, fun _ => ⟨v15, u15, p1⟩⟩
  obtain ⟨G2, s2, m2, f46, f2, g2⟩ := sp187 (d := d) (N := N) (L := L) (B := B) (by omega) hm1.1.1 hm1.2.1 hm1.1.2
  have hc2 := CI_c (G' := G2) (fun c x => f2 c (by omega) (by omega)) hc1
  obtain ⟨⟨m1, m1'⟩, mm2, mm3, mm4, mm5, mm6, mm7⟩ := hm1
  have hm2 : MI G2 H P T tl n nx uc th rcs 1 H P th := ⟨⟨mv_c (fun c x => f2 c (by omega) (by omega)) (fun k x => g2 k (by omega)) m1, by rw [g2 9 (by omega)]; exact m1'⟩, mpv_c (fun c x => f2 c (by omega) (by omega)) (fun k x => g2 k (by omega)) mm2, mtv_c (fun c x => f2 c (by omega) (by omega)) mm3, mav_c (f2 124 (by omega) (by omega)) (g2 68 (by omega)) mm4, mrd_c (f2 88 (by omega) (by omega)) (g2 10 (by omega)) mm5, mU_c (fun c x => f2 c (by omega) (by omega)) (g2 8 (by omega)) (Eq.trans (g2 26 (by omega)) mm6.2.2.2) mm6, f46, fun _ => m2⟩
  have := hn N B G2 ⟨H, P, T, tl, n, nx, uc, a, th, rcs, 1, H, P, th, hc2, hm2, ⟨hp'.1, hp'.2.1, hp'.2.2.1, hth, h6, Or.inr rfl, fun _ => ⟨hp'.1, hp'.2.1, hth⟩⟩, hb⟩
  simp (disch := omega) only [s222_1060, s222_1064, Int.toNat_natCast, Int.toNat_natCast, Nat.reduceAdd, Nat.reduceMul, Int.reduceToNat, Int.reduceAdd, Int.reduceLT, Int.reduceLE, Int.reduceEq, Int.reduceNeg, Int.reduceMul, Int.reduceSub, Nat.reduceSub, reduceIte, ite_true, ite_false, and_true, true_and, and_self, hb, m222_1061 s1, m222_1065 s2, k222_1068]
  exact this
theorem case31 {d L i N : Nat} {B : q_Bv} {G : q_Gi} {xs : Nat → Int32} {Q : Option Value → q_H → Prop} (hd : 40 ≤ d) (hi : i + 6 ≤ L) (hL : L ≤ 3072) (h : INV xs N B G) (hn : ∀ (N' : Nat) (B' : q_Bv) (G' : q_Gi), INV xs N' B' G' → WP d 222 1421 [.ref 1000, .ref 0, .ref 82, vI (i : Int)] [] (hp N' L B' G') Q) : WP d 222 1073 [.ref 1000, .ref 0, .ref 82, vI (i : Int)] [] (hp N L B G) Q := by
  obtain ⟨H, P, T, tl, n, nx, uc, a, th, rcs, s, I, J, ti, hc, hm, hp', hb⟩ := h
  have e1 : ((i : Int) + 1).toNat = i + 1 := by omega
  have e2 : ((i : Int) + 2).toNat = i + 2 := by omega
  have e3 : ((i : Int) + 3).toNat = i + 3 := by omega
  have e4 : ((i : Int) + 4).toNat = i + 4 := by omega
  have e5 : ((i : Int) + 5).toNat = i + 5 := by omega
  obtain ⟨p1, p2, p3, p4, p5, p6, p7⟩ := hp'
  have hp' : PI H P T uc th s I J ti := ⟨p1, p2, p3, p4, p5, p6, p7⟩
  have hI := hc.2.2.2.2.2.2
  have hu : s = 1 → uid ti ≠ 1004 := fun e => by
    have := (p7 e).2.2
    unfold uid
    split <;> omega
  obtain ⟨G1, s1, q0, q1, f1⟩ := sp85 (d := d) (u := uid ti) (I := I) (J := J) (N := N) (L := L) (B := B) (by omega) hc.1.1 hc.2.1 hI.1 p6 (fun e => ⟨(hI.2 e).1, (hI.2 e).2.1, hu e, (hI.2 e).2.2⟩)
  have hm1 := MI_c (G' := G1) (fun c x => f1 c (by omega) (by omega)) hm
  obtain ⟨G2, s2, w0, w1, f2, g2⟩ := sp188 (d := d) (the := ti) (I := I) (J := J) (N := N) (L := L) (B := B) (by omega) hm1.2.2.2.2.2.2.1 p6 hm1.2.2.2.2.2.2.2
  have hsim : INV xs N B G2 → WP d 222 1073 [.ref 1000, .ref 0, .ref 82, vI (i : Int)] [] (hp N L B G) Q := fun hinv => by
    have := hn N B G2 hinv
    simp (disch := omega) only [s222_1073, s222_1077, Int.toNat_natCast, Int.toNat_natCast, Nat.reduceAdd, Nat.reduceMul, Int.reduceToNat, Int.reduceAdd, Int.reduceLT, Int.reduceLE, Int.reduceEq, Int.reduceNeg, Int.reduceMul, Int.reduceSub, Nat.reduceSub, reduceIte, ite_true, ite_false, and_true, true_and, and_self, hb, m222_1074 s1, m222_1078 s2, k222_1081]
    exact this
  apply hsim
  rcases p6 with e | e
  · have g1 := q0 e
    have g2' := w0 e
    rw [g2', g1]
    exact ⟨H, P, T, tl, n, nx, uc, a, th, rcs, s, I, J, ti, hc, hm, hp', hb⟩
  · obtain ⟨v1, v2, v3⟩ := q1 e
    obtain ⟨w2, w3, w4⟩ := w1 e
    obtain ⟨o1, o2, o3⟩ := p7 e
    obtain ⟨⟨h1, h1'⟩, h2, h3, h4, h5, h6', h7⟩ := hc
    have hc1 : CI N B G1 I J T tl n nx uc a ti rcs s I J ti := ⟨⟨v1, v2⟩, v3, tv_c (fun c x => f1 c (by omega) (by omega)) h3, av_c (f1 62 (by omega) (by omega)) (f1 63 (by omega) (by omega)) h4, cR_c (f1 56 (by omega) (by omega)) (f1 57 (by omega) (by omega)) h5, cU_c (by rw [f1 0 (by omega) (by omega)]) (f1 58 (by omega) (by omega)) h6', cI_c (by rw [f1 0 (by omega) (by omega)]) (fun c x => f1 c (by omega) (by omega)) (fun c x => f1 c (by omega) (by omega)) h7⟩
    obtain ⟨⟨m1, m1'⟩, mm2, mm3, mm4, mm5, mm6, mm7⟩ := hm1
    have hm2 : MI G2 I J T tl n nx uc ti rcs s I J ti := ⟨⟨w2, w4⟩, w3, mtv_c (fun c x => f2 c (by omega) (by omega)) mm3, mav_c (f2 124 (by omega) (by omega)) (g2 68 (by omega)) mm4, mrd_c (f2 88 (by omega) (by omega)) (g2 10 (by omega)) mm5, mU_c (fun c x => f2 c (by omega) (by omega)) (g2 8 (by omega)) (Eq.trans (g2 26 (by omega)) mm6.2.2.2) mm6, mI_c (fun c x => f2 c (by omega) (by omega)) (fun k x => g2 k (by omega)) mm7⟩
    exact ⟨I, J, T, tl, n, nx, uc, a, ti, rcs, s, I, J, ti, CI_c (fun c x => f2 c (by omega) (by omega)) hc1, hm2, ⟨o1, o2, p3, o3, p5, Or.inr e, p7⟩, hb⟩
theorem case5 {d L i N : Nat} {B : q_Bv} {G : q_Gi} {xs : Nat → Int32} {Q : Option Value → q_H → Prop} (hd : 40 ≤ d) (hi : i + 6 ≤ L) (hL : L ≤ 3072) (h : INV xs N B G) (hn : ∀ (N' : Nat) (B' : q_Bv) (G' : q_Gi), INV xs N' B' G' → WP d 222 1421 [.ref 1000, .ref 0, .ref 82, vI (i : Int)] [] (hp N' L B' G') Q) : WP d 222 393 [.ref 1000, .ref 0, .ref 82, vI (i : Int)] [] (hp N L B G) Q := by
  obtain ⟨H, P, T, tl, n, nx, uc, a, th, rcs, s, I, J, ti, hc, hm, hp', hb⟩ := h
  have e1 : ((i : Int) + 1).toNat = i + 1 := by omega
  have e2 : ((i : Int) + 2).toNat = i + 2 := by omega
  have e3 : ((i : Int) + 3).toNat = i + 3 := by omega
  have e4 : ((i : Int) + 4).toNat = i + 4 := by omega
  have e5 : ((i : Int) + 5).toNat = i + 5 := by omega
  obtain ⟨⟨h1, h1'⟩, h2, h3, h4, ⟨h5, h5n⟩, h6', h7⟩ := hc
  have s1 := sp59 (d := d) (s := (xs (i + 1)).toInt) (N := N) (L := L) (B := B) (by omega) h5 (xr _)
  obtain ⟨g1, g2, g3, g4⟩ := feed_rdr (s := (xs (i + 1)).toInt) h5
  have hm1 := MI_c (G' := feedG G n (xs (i + 1)).toInt) (fun c x => g2 c (by omega) (by omega)) hm
  obtain ⟨⟨m1, m1'⟩, mm2, mm3, mm4, mm5, mm6, mm7⟩ := hm1
  obtain ⟨G2, s2, q, f2, k2⟩ := sp121 (d := d) (s := (xs (i + 1)).toInt) (N := N) (L := L) (B := B) (by omega) mm5 (xr _)
  have hm2 := q (nxG (feedG G n (xs (i + 1)).toInt) (feedN n (xs (i + 1)).toInt)) (txt_of g1) (fun j hj => by
    have e : nxG (feedG G n (xs (i + 1)).toInt) (feedN n (xs (i + 1)).toInt) j = feedG G n (xs (i + 1)).toInt 57 j := if_pos hj
    rw [e, g4 j hj]
    by_cases c : j < n
    · rw [if_pos c, if_pos c, ← h5n]; exact (if_pos c).symm
    · rw [if_neg c, if_neg c])
  have hc1 : CI N B (feedG G n (xs (i + 1)).toInt) H P T tl (feedN n (xs (i + 1)).toInt) (nxG (feedG G n (xs (i + 1)).toInt) (feedN n (xs (i + 1)).toInt)) uc a th rcs s I J ti := ⟨⟨hv1_c (fun c x => g2 c (by omega) (by omega)) h1, by rw [g2 1 (by omega) (by omega)]; exact h1'⟩, pv_c (fun c x => g2 c (by omega) (by omega)) h2, tv_c (fun c x => g2 c (by omega) (by omega)) h3, av_c (g2 62 (by omega) (by omega)) (g2 63 (by omega) (by omega)) h4, ⟨g1, rfl⟩, cU_c (by rw [g2 0 (by omega) (by omega)]) (g2 58 (by omega) (by omega)) h6', cI_c (by rw [g2 0 (by omega) (by omega)]) (fun c x => g2 c (by omega) (by omega)) (fun c x => g2 c (by omega) (by omega)) h7⟩
  have hm3 : MI G2 H P T tl (feedN n (xs (i + 1)).toInt) (nxG (feedG G n (xs (i + 1)).toInt) (feedN n (xs (i + 1)).toInt)) uc th rcs s I J ti := ⟨⟨mv_c (fun c x => f2 c (by omega) (by omega)) (fun k x => k2 k (by omega)) m1, by rw [k2 9 (by omega)]; exact m1'⟩, mpv_c (fun c x => f2 c (by omega) (by omega)) (fun k x => k2 k (by omega)) mm2, mtv_c (fun c x => f2 c (by omega) (by omega)) mm3, mav_c (f2 124 (by omega) (by omega)) (k2 68 (by omega)) mm4, hm2, mU_c (fun c x => f2 c (by omega) (by omega)) (k2 8 (by omega)) (Eq.trans (k2 26 (by omega)) mm6.2.2.2) mm6, mI_c (fun c x => f2 c (by omega) (by omega)) (fun k x => k2 k (by omega)) mm7⟩
  have := hn N B G2 ⟨H, P, T, tl, _, _, uc, a, th, rcs, s, I, J, ti, CI_c (fun c x => f2 c (by omega) (by omega)) hc1, hm3, hp', hb⟩
  simp (disch := omega) only [s222_393, s222_394, s222_395, s222_396, s222_397, m222_398, s222_402, s222_403, s222_404, s222_405, s222_406, m222_407, Int.toNat_natCast, Int.toNat_natCast, Nat.reduceAdd, Nat.reduceMul, Int.reduceToNat, Int.reduceAdd, Int.reduceLT, Int.reduceLE, Int.reduceEq, Int.reduceNeg, Int.reduceMul, Int.reduceSub, Nat.reduceSub, reduceIte, ite_true, ite_false, and_true, true_and, and_self, hb, e1, e2, e3, e4, e5, m222_399 s1, m222_408 s2, k222_411]
  exact this
