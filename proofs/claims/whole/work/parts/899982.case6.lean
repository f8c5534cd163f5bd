/-! the law's call of upland -/
theorem Cls_c {B B' : q_Bv} {u : Nat} (h1 : B' (u + 1) = B (u + 1)) (h2 : B' (u + 2) = B (u + 2)) (h3 : B' (u + 3) = B (u + 3)) : ∀ (cl : List (Int × List Int)) (i p : Nat), Cls B u i p cl → Cls B' u i p cl
  | [], _, _, _ => trivial
  | (a, l) :: r, i, p, h => by
    obtain ⟨q1, q2, q3, q4⟩ := h
    exact ⟨by rw [h1]; exact q1, by rw [h2]; exact q2, by rw [h3]; exact q3, Cls_c h1 h2 h3 r _ _ q4⟩
theorem upl_c {B B' : q_Bv} {N N' u : Nat} {t g : Int} {cl : List (Int × List Int)} (f : ∀ k, k ≤ 3 → B' (u + k) = B (u + k)) (hN : N ≤ N') (h : upl B N u t g cl) : upl B' N' u t g cl := by
  obtain ⟨q1, q2, q3, q4, q5, q6, q7, q8, q9, q10⟩ := h
  have f0 : B' u = B u := f 0 (by omega)
  exact ⟨q1, by omega, by rw [f0]; exact q3, by rw [f0]; exact q4, by rw [f0]; exact q5, by rw [f0]; exact q6, by rw [f0]; exact q7, by rw [f0]; exact q8, Cls_c (f 1 (by omega)) (f 2 (by omega)) (f 3 (by omega)) cl 0 0 q9, q10⟩
def rcA (rcs : Nat → q_Rc) (uc : Nat) (rc : q_Rc) : Nat → q_Rc := fun j => if j = uc then rc else rcs j
theorem rcA_at {rcs : Nat → q_Rc} {uc : Nat} {rc : q_Rc} : rcA rcs uc rc uc = rc := if_pos rfl
theorem rcA_ne {rcs : Nat → q_Rc} {uc j : Nat} {rc : q_Rc} (h : ¬ j = uc) : rcA rcs uc rc j = rcs j := if_neg h
theorem case6 {d L i N : Nat} {B : q_Bv} {G : q_Gi} {xs : Nat → Int32} {Q : Option Value → q_H → Prop} (hd : 40 ≤ d) (hi : i + 6 ≤ L) (hL : L ≤ 3072) (h : INV xs N B G) (hn : ∀ (N' : Nat) (B' : q_Bv) (G' : q_Gi), INV xs N' B' G' → WP d 222 1421 [.ref 1000, .ref 0, .ref 82, vI (i : Int)] [] (hp N' L B' G') Q) : WP d 222 416 [.ref 1000, .ref 0, .ref 82, vI (i : Int)] [] (hp N L B G) Q := by
  obtain ⟨H, P, T, tl, n, nx, uc, a, th, rcs, s, I, J, ti, hc, hm, hp', hb⟩ := h
  obtain ⟨⟨h1, h1'⟩, h2, h3, h4, ⟨h5, h5n⟩, ⟨h6, hbare, hupl⟩, h7⟩ := hc
  obtain ⟨p1, p2, p3, p4, p5, p6, p7⟩ := hp'
  have hN := h6.1
  subst hN
  obtain ⟨a', B', G1, s1, aa, u1, u2, u3, u4, u5, u6, u7, u8, u9⟩ := sp60 (d := d) (L := L) (by omega) h5 h6
  rw [h5n] at s1 u1 u2 u3
  have hm1 := MI_c (G' := G1) (fun c x => u7 c (by omega) (by omega) (by omega) (by omega)) hm
  obtain ⟨⟨m1, m1'⟩, mm2, mm3, mm4, mm5, mm6, mm7⟩ := hm1
  obtain ⟨G2, s2, w1, w2, w3, w4, w5, w6, w7⟩ := sp137 (d := d) (N := 4 * a') (L := L) (B := B') (by omega) mm5 mm6.2.2.1 p5 mm6.1
  have hsim : INV xs (4 * a') B' G2 → WP d 222 416 [.ref 1000, .ref 0, .ref 82, vI (i : Int)] [] (hp (4 * a) L B G) Q := fun hinv => by
    have := hn _ _ G2 hinv
    simp (disch := omega) only [s222_416, s222_420, Int.toNat_natCast, Int.toNat_natCast, Nat.reduceAdd, Nat.reduceMul, Int.reduceToNat, Int.reduceAdd, Int.reduceLT, Int.reduceLE, Int.reduceEq, Int.reduceNeg, Int.reduceMul, Int.reduceSub, Nat.reduceSub, reduceIte, ite_true, ite_false, and_true, true_and, and_self, hb, m222_417 s1, m222_421 s2, k222_424]
    exact this
  apply hsim
  have hb' : ∀ j, B' 1000 j = vI (xs j).toInt := fun j => by rw [u6 1000 (by omega) (by omega) (by omega) (by omega)]; exact hb j
  have ubare : upl B' (4 * a') 78 9 0 [] := upl_c (fun k hk => u6 _ (by omega) (by omega) (by omega) (by omega)) (by omega) hbare
  have uold : ∀ j, j < uc → upl B' (4 * a') (4 * j + 129) (lsR 2 (rcs j) 9) (lsR 3 (rcs j) 0) (clR (rcs j)) := fun j hj => upl_c (fun k hk => u6 _ (by omega) (by omega) (by omega) (by omega)) (by omega) (hupl j hj)
  have c2 : ∀ c, c < 82 → G2 c = G1 c := fun c x => w6 c (by omega) (by omega) (by omega) (by omega) (by omega) (by omega) (by omega) (by omega)
  have q1 : hv1 G1 H := by
    unfold hv1 at h1 ⊢
    rw [u9 0 (by omega), u9 6 (by omega), u9 7 (by omega), u7 2 (by omega) (by omega) (by omega) (by omega), u7 3 (by omega) (by omega) (by omega) (by omega), u7 4 (by omega) (by omega) (by omega) (by omega), u7 5 (by omega) (by omega) (by omega) (by omega), u7 6 (by omega) (by omega) (by omega) (by omega)]
    exact h1
  have q2 : pv G1 P := pv_c (fun c x => u7 c (by omega) (by omega) (by omega) (by omega)) h2
  have q3 : tv G1 T := tv_c (fun c x => u7 c (by omega) (by omega) (by omega) (by omega)) h3
  have q4 : av G1 tl := av_c (u7 62 (by omega) (by omega) (by omega) (by omega)) (u7 63 (by omega) (by omega) (by omega) (by omega)) h4
  have q7 := cI_c (G' := G1) (u8 5 (by omega)) (fun c x => u7 c (by omega) (by omega) (by omega) (by omega)) (fun c x => u7 c (by omega) (by omega) (by omega) (by omega)) h7
  have y2 : mpv G2 P := mpv_c (fun c x => w6 c (by omega) (by omega) (by omega) (by omega) (by omega) (by omega) (by omega) (by omega)) (fun k x => w7 k (by omega) (by omega) (by omega) (by omega) (by omega) (by omega) (by omega) (by omega)) mm2
  have y1 : mv G2 H := mv_c (fun c x => w6 c (by omega) (by omega) (by omega) (by omega) (by omega) (by omega) (by omega) (by omega)) (fun k x => w7 k (by omega) (by omega) (by omega) (by omega) (by omega) (by omega) (by omega) (by omega)) m1
  have y3 : mtv G2 T := mtv_c (fun c x => w6 c (by omega) (by omega) (by omega) (by omega) (by omega) (by omega) (by omega) (by omega)) mm3
  have y4 : mav G2 tl := mav_c (w6 124 (by omega) (by omega) (by omega) (by omega) (by omega) (by omega) (by omega) (by omega)) (w7 68 (by omega) (by omega) (by omega) (by omega) (by omega) (by omega) (by omega) (by omega)) mm4
  have y7 := mI_c (G' := G2) (fun c x => w6 c (by omega) (by omega) (by omega) (by omega) (by omega) (by omega) (by omega) (by omega)) (fun k x => w7 k (by omega) (by omega) (by omega) (by omega) (by omega) (by omega) (by omega) (by omega)) mm7
  have yl : ltr G2 := fun j hj => by rw [w6 96 (by omega) (by omega) (by omega) (by omega) (by omega) (by omega) (by omega) (by omega)]; exact mm6.2.2.1 j hj
  have y26 : G2 82 26 = 99999 := (w7 26 (by omega) (by omega) (by omega) (by omega) (by omega) (by omega) (by omega) (by omega)).trans mm6.2.2.2
  by_cases c6 : ¬ uc < 6
  · have g1 := u5 c6
    have g2 := w1 c6
    have no : ¬ (uc < 6 ∧ (updS nx n).1 = true) := fun e => c6 e.1
    rw [if_neg no] at u1
    rw [g2]
    have hm' : MI G1 H P T tl n nx uc th rcs s I J ti := ⟨⟨m1, m1'⟩, mm2, mm3, mm4, mm5, mm6, mm7⟩
    exact ⟨H, P, T, tl, n, nx, uc, a', th, rcs, s, I, J, ti, ⟨⟨q1, by rw [u3 no]; exact h1'⟩, q2, q3, q4, by rw [g1]; exact ⟨h5, h5n⟩, ⟨u1, ubare, uold⟩, q7⟩, hm', ⟨p1, p2, p3, p4, p5, p6, p7⟩, hb'⟩
  have c6 : uc < 6 := Decidable.not_not.mp c6
  have r0 : rdr G1 0 := ⟨u4 c6, Nat.zero_le _, fun j hj => absurd hj (Nat.not_lt_zero _)⟩
  have r0' : mrd G2 0 (nxG G1 0) := ⟨w2 c6, Nat.zero_le _, fun j hj => absurd hj (Nat.not_lt_zero _), txt_of r0⟩
  by_cases ok : (updS nx n).1 = true
  · have yes : uc < 6 ∧ (updS nx n).1 = true := ⟨c6, ok⟩
    rw [if_pos yes] at u1
    obtain ⟨v1, v2, v3⟩ := u2 yes
    obtain ⟨z1, z2, rc, z3, z4⟩ := w4 yes
    have ht := mm5.2.2.2
    obtain ⟨k1, k2, k3, k4⟩ := upd_ok ht 10 0 (9, 0, []) 0 (Nat.zero_le _) ⟨⟨by decide, by decide⟩, ⟨by decide, by decide⟩, fun c hc => absurd hc List.not_mem_nil⟩ (Nat.le_refl _) (Nat.le_refl _) rfl ok
    have hu : uar (4 * uc + 129) (4 * a') := uar_of (sh_n uc c6).2.2.2.2.2 (by omega)
    have hl := upl_of (st := (updS nx n).2.2) hu v2 k1 k2 (Nat.le_trans k3 mm5.2.1)
    rw [z3] at hl
    have hid : uid (uc : Int) = 4 * uc + 129 := by
      unfold uid
      rw [if_neg (by omega), Int.toNat_natCast]
    have hc1 : CI (4 * a') B' G1 H P T tl 0 (nxG G1 0) (uc + 1) a' (uc : Int) (rcA rcs uc rc) s I J ti := ⟨⟨q1, by rw [v3, hid]⟩, q2, q3, q4, ⟨r0, rfl⟩, ⟨u1, ubare, fun j hj => by
      by_cases c : j = uc
      · rw [c, rcA_at]; exact hl
      · rw [rcA_ne c]; exact uold j (by omega)⟩, q7⟩
    have hm2 : MI G2 H P T tl 0 (nxG G1 0) (uc + 1) (uc : Int) (rcA rcs uc rc) s I J ti := ⟨⟨y1, z2⟩, y2, y3, y4, r0', ⟨z1, fun j hj => by
      by_cases c : j = uc
      · rw [c, rcA_at]; exact z4
      · rw [rcA_ne c]; exact w3 j (rcs j) (by omega) (mm6.2.1 j (by omega)), yl, y26⟩, y7⟩
    exact ⟨H, P, T, tl, 0, nxG G1 0, uc + 1, a', (uc : Int), rcA rcs uc rc, s, I, J, ti, CI_c c2 hc1, hm2, ⟨p1, p2, p3, ⟨by omega, by omega⟩, by omega, p6, fun e => ⟨(p7 e).1, (p7 e).2.1, (p7 e).2.2.1, by have := (p7 e).2.2.2; omega⟩⟩, hb'⟩
  · have no : ¬ (uc < 6 ∧ (updS nx n).1 = true) := fun e => ok e.2
    rw [if_neg no] at u1
    obtain ⟨z1, z2⟩ := w5 no
    have hc1 : CI (4 * a') B' G1 H P T tl 0 (nxG G1 0) uc a' th rcs s I J ti := ⟨⟨q1, by rw [u3 no]; exact h1'⟩, q2, q3, q4, ⟨r0, rfl⟩, ⟨u1, ubare, uold⟩, q7⟩
    have hm2 : MI G2 H P T tl 0 (nxG G1 0) uc th rcs s I J ti := ⟨⟨y1, by rw [z2]; exact m1'⟩, y2, y3, y4, r0', ⟨by rw [z1]; exact mm6.1, fun j hj => w3 j (rcs j) hj (mm6.2.1 j hj), yl, y26⟩, y7⟩
    exact ⟨H, P, T, tl, 0, nxG G1 0, uc, a', th, rcs, s, I, J, ti, CI_c c2 hc1, hm2, ⟨p1, p2, p3, p4, p5, p6, p7⟩, hb'⟩
