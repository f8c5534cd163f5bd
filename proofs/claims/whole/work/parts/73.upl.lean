/-! the class's feed and upland -/
theorem mk_mm {B : q_Bv} {G : q_Gi} {a : Nat} {f : Nat → Value} (h : mty a = 0) : mk (mm B G) a f = mm (mk B a f) G := by
  funext b j
  unfold mk mm
  by_cases hb : b = a
  · rw [if_pos hb, hb]
    simp only [h]
    rw [if_pos trivial]
  · rw [if_neg hb]
    split
    · exact (if_neg hb).symm
    · rfl
    · rfl
    · unfold mof
      split
      · exact (if_neg hb).symm
      · rfl
      · rfl
      · rfl
      · rfl
    · rfl
theorem hp_mk {N L : Nat} {B : q_Bv} {G : q_Gi} {f : Nat → Value} : ((N + 129 + 1, L, mk (mm B G) (N + 129) f) : q_H) = hp (N + 1) L (mk B (N + 129) f) G := by
  unfold hp
  rw [mk_mm (mty_raw (by omega)), show N + 129 + 1 = N + 1 + 129 by omega]
theorem sh_n : ∀ k, k < 6 → q_sh (4 * k + 129) = (7, 7) ∧ q_sh (4 * k + 130) = (16, 10) ∧ q_sh (4 * k + 131) = (16, 10) ∧ q_sh (4 * k + 132) = (16, 100) ∧ mem [78, 129, 133, 137, 141, 145, 149] (4 * k + 129) = true ∧ mem [129, 133, 137, 141, 145, 149] (4 * k + 129) = true := by decide
theorem n60 {d k L : Nat} {l0 l1 l2 : Value} {st : List Value} {B : q_Bv} {G : q_Gi} {Q : Option Value → q_H → Prop} (hk : k < 6) : WP d 60 32 [l0, l1, l2] st (hp (4 * k) L B G) Q = WP d 60 35 [l0, l1, l2] (.ref (4 * k + 129) :: st) (hp (4 * k + 1) L (mk B (4 * k + 129) (fun j => defaultValue (q_ty 7 j))) G) Q := by
  have h := s60_32 (d := d) (l0 := l0) (l1 := l1) (l2 := l2) (st := st) (N := 4 * k + 129) (L := L) (M := mm B G) (Q := Q) (by omega) (sh_n k hk).1
  rw [hp_mk] at h
  exact h
theorem n45_0 {d k L : Nat} {l0 : Value} {st : List Value} {B : q_Bv} {G : q_Gi} {Q : Option Value → q_H → Prop} (hk : k < 6) : WP d 45 7 [l0] (vI 10 :: st) (hp (4 * k + 1) L B G) Q = WP d 45 9 [l0] (.ref (4 * k + 130) :: st) (hp (4 * k + 2) L (mk B (4 * k + 130) (fun _ => vI 0)) G) Q := by
  have h := s45_7 (d := d) (l0 := l0) (st := st) (z1 := 10) (N := 4 * k + 1 + 129) (L := L) (M := mm B G) (Q := Q) (by omega) (by omega) (by rw [show 4 * k + 1 + 129 = 4 * k + 130 by omega]; exact (sh_n k hk).2.1)
  rw [hp_mk] at h
  rw [show 4 * k + 1 + 129 = 4 * k + 130 by omega] at h
  exact h
theorem n45_1 {d k L : Nat} {l0 : Value} {st : List Value} {B : q_Bv} {G : q_Gi} {Q : Option Value → q_H → Prop} (hk : k < 6) : WP d 45 15 [l0] (vI 10 :: st) (hp (4 * k + 2) L B G) Q = WP d 45 17 [l0] (.ref (4 * k + 131) :: st) (hp (4 * k + 3) L (mk B (4 * k + 131) (fun _ => vI 0)) G) Q := by
  have h := s45_15 (d := d) (l0 := l0) (st := st) (z1 := 10) (N := 4 * k + 2 + 129) (L := L) (M := mm B G) (Q := Q) (by omega) (by omega) (by rw [show 4 * k + 2 + 129 = 4 * k + 131 by omega]; exact (sh_n k hk).2.2.1)
  rw [hp_mk] at h
  rw [show 4 * k + 2 + 129 = 4 * k + 131 by omega] at h
  exact h
theorem n45_2 {d k L : Nat} {l0 : Value} {st : List Value} {B : q_Bv} {G : q_Gi} {Q : Option Value → q_H → Prop} (hk : k < 6) : WP d 45 23 [l0] (vI 100 :: st) (hp (4 * k + 3) L B G) Q = WP d 45 25 [l0] (.ref (4 * k + 132) :: st) (hp (4 * k + 4) L (mk B (4 * k + 132) (fun _ => vI 0)) G) Q := by
  have h := s45_23 (d := d) (l0 := l0) (st := st) (z1 := 100) (N := 4 * k + 3 + 129) (L := L) (M := mm B G) (Q := Q) (by omega) (by omega) (by rw [show 4 * k + 3 + 129 = 4 * k + 132 by omega]; exact (sh_n k hk).2.2.2.1)
  rw [hp_mk] at h
  rw [show 4 * k + 3 + 129 = 4 * k + 132 by omega] at h
  exact h
theorem sp45 {d k L : Nat} {B : q_Bv} {G : q_Gi} (hd : 1 ≤ d) (hk : k < 6) : ∃ B', Sp d 45 [.ref (4 * k + 129)] (hp (4 * k + 1) L B G) none (hp (4 * k + 4) L B' G) ∧ sho B' (4 * k + 129) ∧ ∀ c, (c < 4 * k + 129 ∨ 4 * k + 132 < c) → B' c = B c := by
  obtain ⟨e1, e2, e3, e4, e5, e6⟩ := sh_n k hk
  refine ⟨up (up (mk (up (mk (up (mk B (4 * k + 130) (fun _ => vI 0)) (4 * k + 129) 3 (.ref (4 * k + 130))) (4 * k + 131) (fun _ => vI 0)) (4 * k + 129) 4 (.ref (4 * k + 131))) (4 * k + 132) (fun _ => vI 0)) (4 * k + 129) 6 (.ref (4 * k + 132))) (4 * k + 129) 0 (vI 9), ?_, ⟨?_, ?_, ?_⟩, ?_⟩
  · refine e45 (by omega) ?_
    simp (disch := first | omega | assumption) only [s45_0, s45_1, s45_4, s45_5, m45_9, s45_12, s45_13, m45_17, s45_20, s45_21, m45_25, s45_28, s45_29, m45_31, s45_34, Int.toNat_natCast, Int.toNat_natCast, Nat.reduceAdd, Nat.reduceMul, Int.reduceToNat, Int.reduceAdd, Int.reduceLT, Int.reduceLE, Int.reduceEq, Int.reduceNeg, Int.reduceMul, Int.reduceSub, Nat.reduceSub, reduceIte, ite_true, ite_false, and_true, true_and, and_self, n45_0, n45_1, n45_2]
  · rw [up_k (by omega), up_k (by omega), mk_ne (by omega), up_k (by omega), mk_ne (by omega), up_at]
  · rw [up_k (by omega), up_k (by omega), mk_ne (by omega), up_at]
  · rw [up_k (by omega), up_at]
  · intro c hc
    rw [up_ne (by omega), up_ne (by omega), mk_ne (by omega), up_ne (by omega), mk_ne (by omega), up_ne (by omega), mk_ne (by omega)]
theorem sp23 {d n N L : Nat} {s : Int} {B : q_Bv} {G : q_Gi} (hd : 1 ≤ d) (h : rdr G n) (hs : 0 ≤ s ∧ s ≤ 127) : Sp d 23 [.ref 56, vI s] (hp N L B G) (some (vI (if n < 100 then (n : Int) + 1 else -4))) (hp N L B (if n < 100 then ug (ug G 57 n s) 56 1 ((n : Int) + 1) else G)) := by
  have hn := h.2.1
  by_cases c : n < 100
  · have c' : (n : Int) < 100 := by omega
    rw [if_pos c, if_pos c]
    refine e23 (by omega) ?_
    simp (disch := omega) only [s23_0, m23_1, s23_4, m23_5, m23_8, s23_9, s23_12, s23_14, s23_15, m23_16, s23_19, m23_20, s23_23, m23_24, s23_25, s23_26, m23_27, s23_30, s23_31, m23_32, s23_35, m23_36, s23_39, Int.toNat_natCast, Int.toNat_natCast, Nat.reduceAdd, Nat.reduceMul, Int.reduceToNat, Int.reduceAdd, Int.reduceLT, Int.reduceLE, Int.reduceEq, Int.reduceNeg, Int.reduceMul, Int.reduceSub, Nat.reduceSub, reduceIte, ite_true, ite_false, and_true, true_and, and_self, h.1, c', ug_ne, ug_at]
  · have c' : ¬ (n : Int) < 100 := by omega
    rw [if_neg c, if_neg c]
    refine e23 (by omega) ?_
    simp (disch := omega) only [s23_0, m23_1, s23_4, m23_5, m23_8, s23_9, s23_12, s23_14, s23_15, m23_16, s23_19, m23_20, s23_23, m23_24, s23_25, s23_26, m23_27, s23_30, s23_31, m23_32, s23_35, m23_36, s23_39, Int.toNat_natCast, Int.toNat_natCast, Nat.reduceAdd, Nat.reduceMul, Int.reduceToNat, Int.reduceAdd, Int.reduceLT, Int.reduceLE, Int.reduceEq, Int.reduceNeg, Int.reduceMul, Int.reduceSub, Nat.reduceSub, reduceIte, ite_true, ite_false, and_true, true_and, and_self, h.1, c']
def feedS (n : Nat) (s : Int) : Int := if 0 ≤ s ∧ s ≤ 127 then (if n < 100 then (n : Int) + 1 else -4) else -2
def feedG (G : q_Gi) (n : Nat) (s : Int) : q_Gi := if 0 ≤ s ∧ s ≤ 127 then (if n < 100 then ug (ug G 57 n s) 56 1 ((n : Int) + 1) else G) else G
def feedN (n : Nat) (s : Int) : Nat := if 0 ≤ s ∧ s ≤ 127 then (if n < 100 then n + 1 else n) else n
theorem sp59 {d n N L : Nat} {s : Int} {B : q_Bv} {G : q_Gi} (hd : 2 ≤ d) (h : rdr G n) (hz : -2147483648 ≤ s ∧ s ≤ 2147483647) : Sp d 59 [.ref 0, vI s] (hp N L B G) (some (vI (feedS n s))) (hp N L B (feedG G n s)) := by
  unfold feedS feedG
  by_cases c1 : 0 ≤ s ∧ s ≤ 127
  · rw [if_pos c1, if_pos c1]
    have h23 := sp23 (d := d - 1) (N := N) (L := L) (B := B) (by omega) h c1
    have a1 : ¬ s < 0 := by omega
    have a2 : ¬ 127 < s := by omega
    have a3 : s ≤ 127 := c1.2
    have ei := (cb_o c1).1
    refine e59 (by omega) ?_
    simp (disch := omega) only [s59_0, s59_1, s59_4, s59_5, s59_7, s59_10, s59_12, s59_13, m59_14, s59_17, s59_18, s59_22, Int.toNat_natCast, Int.toNat_natCast, Nat.reduceAdd, Nat.reduceMul, Int.reduceToNat, Int.reduceAdd, Int.reduceLT, Int.reduceLE, Int.reduceEq, Int.reduceNeg, Int.reduceMul, Int.reduceSub, Nat.reduceSub, reduceIte, ite_true, ite_false, and_true, true_and, and_self, a1, a2, a3, ei, m59_19 h23]
  · rw [if_neg c1, if_neg c1]
    refine e59 (by omega) ?_
    by_cases a1 : s < 0
    · simp (disch := omega) only [s59_0, s59_1, s59_4, s59_5, s59_7, s59_10, s59_12, s59_13, m59_14, s59_17, s59_18, s59_22, Int.toNat_natCast, Int.toNat_natCast, Nat.reduceAdd, Nat.reduceMul, Int.reduceToNat, Int.reduceAdd, Int.reduceLT, Int.reduceLE, Int.reduceEq, Int.reduceNeg, Int.reduceMul, Int.reduceSub, Nat.reduceSub, reduceIte, ite_true, ite_false, and_true, true_and, and_self, a1]
    · have a2 : 127 < s := by omega
      have a3 : ¬ s ≤ 127 := by omega
      simp (disch := omega) only [s59_0, s59_1, s59_4, s59_5, s59_7, s59_10, s59_12, s59_13, m59_14, s59_17, s59_18, s59_22, Int.toNat_natCast, Int.toNat_natCast, Nat.reduceAdd, Nat.reduceMul, Int.reduceToNat, Int.reduceAdd, Int.reduceLT, Int.reduceLE, Int.reduceEq, Int.reduceNeg, Int.reduceMul, Int.reduceSub, Nat.reduceSub, reduceIte, ite_true, ite_false, and_true, true_and, and_self, a1, a2, a3]
theorem feed_rdr {G : q_Gi} {n : Nat} {s : Int} (h : rdr G n) : rdr (feedG G n s) (feedN n s) ∧ (∀ a, a ≠ 56 → a ≠ 57 → feedG G n s a = G a) ∧ (∀ k, k ≠ 1 → feedG G n s 56 k = G 56 k) ∧ ∀ j, j < feedN n s → feedG G n s 57 j = if j < n then G 57 j else s := by
  unfold feedG feedN
  by_cases c1 : 0 ≤ s ∧ s ≤ 127
  · rw [if_pos c1, if_pos c1]
    by_cases c2 : n < 100
    · rw [if_pos c2, if_pos c2]
      refine ⟨⟨by rw [ug_at]; rfl, by omega, fun j hj => ?_⟩, fun a a1 a2 => by rw [ug_ne a1, ug_ne a2], fun k hk => by rw [ug_k hk, ug_ne (by omega)], fun j hj => ?_⟩
      · rw [ug_ne (by omega)]
        by_cases e : j = n
        · rw [e, ug_at]; exact c1
        · rw [ug_k e]; exact h.2.2 j (by omega)
      · rw [ug_ne (by omega)]
        by_cases e : j = n
        · rw [e, ug_at, if_neg (by omega)]
        · rw [ug_k e, if_pos (by omega)]
    · rw [if_neg c2, if_neg c2]
      exact ⟨h, fun _ _ _ => rfl, fun _ _ => rfl, fun j hj => by rw [if_pos hj]⟩
  · rw [if_neg c1, if_neg c1]
    exact ⟨h, fun _ _ _ => rfl, fun _ _ => rfl, fun j hj => by rw [if_pos hj]⟩
/-- the uplands: uc are told, a have a place -/
def uv (B : q_Bv) (G : q_Gi) (N uc a : Nat) : Prop := N = 4 * a ∧ a ≤ 6 ∧ uc ≤ a ∧ G 0 8 = (uc : Int) ∧ (∀ j, j < 6 → G 58 j = if j < a then ((4 * j + 129 : Nat) : Int) else 0) ∧ ∀ j, j < a → sho B (4 * j + 129)
def upA (nx : Nat → Int) (uc n : Nat) : Int := if uc < 6 then (if (updS nx n).1 = true then (uc : Int) else -10 - ((updS nx n).2.1 : Int)) else -4
theorem sho_f {B B' : q_Bv} {u : Nat} (h : sho B u) (e : B' u = B u) : sho B' u := by unfold sho; rw [e]; exact h
/-- with the place there -/
theorem wp60 {d n uc a L : Nat} {B : q_Bv} {G : q_Gi} {x y : Value} (hd : 28 ≤ d) (h : rdr G n) (hv : uv B G (4 * a) uc a) (hua : uc < a) (hx : nL x = true) (hy : nL y = true) : WP d 60 40 [.ref 0, x, y] [] (hp (4 * a) L B G) (fun r1 X1 => ∃ B' G', r1 = some (vI (upA (nxG G n) uc n)) ∧ X1 = hp (4 * a) L B' G' ∧ uv B' G' (4 * a) (if (updS (nxG G n) n).1 = true then uc + 1 else uc) a ∧ ((updS (nxG G n) n).1 = true → upw B' (4 * uc + 129) (updS (nxG G n) n).2.2 ∧ G' 1 8 = ((4 * uc + 129 : Nat) : Int)) ∧ (¬ (updS (nxG G n) n).1 = true → G' 1 8 = G 1 8) ∧ G' 56 1 = 0 ∧ frU B B' (4 * uc + 129) ∧ (∀ c, c ≠ 0 → c ≠ 1 → c ≠ 56 → G' c = G c) ∧ (∀ k, k ≠ 8 → G' 0 k = G 0 k) ∧ (∀ k, k ≠ 8 → G' 1 k = G 1 k)) := by
  obtain ⟨v0, v1, v2, v3, v4, v5⟩ := hv
  have hs := v5 uc hua
  have hu6 : uc < 6 := by omega
  have hu : uar (4 * uc + 129) (4 * a) := uar_of (sh_n uc hu6).2.2.2.2.2 (by omega)
  have e58 := v4 uc hu6
  rw [if_pos hua] at e58
  obtain ⟨B1, s1, t1, t2, t3⟩ := sp24 (d := d) (L := L) (by omega) h hu hs
  have hr := upd_r (txt_of h) 10 0 (9, 0, []) 0 (Nat.zero_le n)
  change (updS (nxG G n) n).2.1 ≤ n at hr
  have hn := h.2.1
  have shs : ∀ j, j < a → sho B1 (4 * j + 129) := by
    intro j hj
    by_cases e : j = uc
    · rw [e]; exact t2
    · exact sho_f (v5 j hj) (t3 _ (by omega) (by omega) (by omega) (by omega))
  unfold upA
  rw [if_pos hu6]
  by_cases c : (updS (nxG G n) n).1 = true
  · rw [if_pos c, if_pos c]
    rw [bI_t c] at s1
    have e1 : (uc : Int) + 1 - 1 = (uc : Int) := by omega
    simp (disch := first | omega | assumption) only [s60_40, m60_41, s60_44, m60_45, m60_48, s60_49, s60_50, m60_51, s60_54, s60_58, s60_59, m60_60, s60_63, m60_64, s60_67, s60_68, s60_68b, s60_71, s60_73, m60_74, m60_77, s60_80, s60_81, s60_82, m60_83, s60_86, m60_87, s60_90, s60_91, m60_92, s60_95, s60_96, m60_97, s60_100, m60_101, s60_104, s60_105, s60_106, Int.toNat_natCast, Int.toNat_natCast, Nat.reduceAdd, Nat.reduceMul, Int.reduceToNat, Int.reduceAdd, Int.reduceLT, Int.reduceLE, Int.reduceEq, Int.reduceNeg, Int.reduceMul, Int.reduceSub, Nat.reduceSub, reduceIte, ite_true, ite_false, and_true, true_and, and_self, v3, e58, nz_u, m60_55 s1, ug_ne, ug_k, ug_at, e1]
    refine ⟨B1, _, rfl, ⟨rfl, v1, by omega, ?_, ?_, shs⟩, fun _ => ⟨t1 c, ?_⟩, fun h => absurd c h, ?_, t3, ?_, ?_, ?_⟩
    · rw [ug_at]; rfl
    · intro j hj; rw [ug_ne (by omega), ug_ne (by omega), ug_ne (by omega), ug_ne (by omega), ug_ne (by omega)]; exact v4 j hj
    · rw [ug_ne (by omega), ug_at]
    · rw [ug_ne (by omega), ug_ne (by omega), ug_at]
    · intro c c0 c1 c2; rw [ug_ne c0, ug_ne c1, ug_ne c2, ug_ne c2, ug_ne c2]
    · intro k hk; rw [ug_k hk, ug_ne (by omega), ug_ne (by omega), ug_ne (by omega), ug_ne (by omega)]
    · intro k hk; rw [ug_ne (by omega), ug_k hk, ug_ne (by omega), ug_ne (by omega), ug_ne (by omega)]
  · rw [if_neg c, if_neg c]
    rw [bI_f c] at s1
    simp (disch := first | omega | assumption) only [s60_40, m60_41, s60_44, m60_45, m60_48, s60_49, s60_50, m60_51, s60_54, s60_58, s60_59, m60_60, s60_63, m60_64, s60_67, s60_68, s60_68b, s60_71, s60_73, m60_74, m60_77, s60_80, s60_81, s60_82, m60_83, s60_86, m60_87, s60_90, s60_91, m60_92, s60_95, s60_96, m60_97, s60_100, m60_101, s60_104, s60_105, s60_106, Int.toNat_natCast, Int.toNat_natCast, Nat.reduceAdd, Nat.reduceMul, Int.reduceToNat, Int.reduceAdd, Int.reduceLT, Int.reduceLE, Int.reduceEq, Int.reduceNeg, Int.reduceMul, Int.reduceSub, Nat.reduceSub, reduceIte, ite_true, ite_false, and_true, true_and, and_self, v3, e58, nz_u, m60_55 s1, ug_ne, ug_k, ug_at]
    refine ⟨B1, _, rfl, ⟨rfl, v1, by omega, ?_, ?_, shs⟩, fun h => absurd h c, fun _ => ?_, ?_, t3, ?_, ?_, ?_⟩
    · rw [ug_ne (by omega), ug_ne (by omega), ug_ne (by omega)]; exact v3
    · intro j hj; rw [ug_ne (by omega), ug_ne (by omega), ug_ne (by omega)]; exact v4 j hj
    · rw [ug_ne (by omega), ug_ne (by omega), ug_ne (by omega)]
    · rw [ug_at]
    · intro c c0 c1 c2; rw [ug_ne c2, ug_ne c2, ug_ne c2]
    · intro k hk; rw [ug_ne (by omega), ug_ne (by omega), ug_ne (by omega)]
    · intro k hk; rw [ug_ne (by omega), ug_ne (by omega), ug_ne (by omega)]
theorem sp60 {d n uc a L : Nat} {B : q_Bv} {G : q_Gi} (hd : 30 ≤ d) (h : rdr G n) (hv : uv B G (4 * a) uc a) : ∃ a' B' G', Sp d 60 [.ref 0] (hp (4 * a) L B G) (some (vI (upA (nxG G n) uc n))) (hp (4 * a') L B' G') ∧ a ≤ a' ∧ uv B' G' (4 * a') (if uc < 6 ∧ (updS (nxG G n) n).1 = true then uc + 1 else uc) a' ∧ (uc < 6 ∧ (updS (nxG G n) n).1 = true → uc < a' ∧ upw B' (4 * uc + 129) (updS (nxG G n) n).2.2 ∧ G' 1 8 = ((4 * uc + 129 : Nat) : Int)) ∧ (¬ (uc < 6 ∧ (updS (nxG G n) n).1 = true) → G' 1 8 = G 1 8) ∧ (uc < 6 → G' 56 1 = 0) ∧ (¬ uc < 6 → G' = G) ∧ frU B B' (4 * uc + 129) ∧ (∀ c, c ≠ 0 → c ≠ 1 → c ≠ 56 → c ≠ 58 → G' c = G c) ∧ (∀ k, k ≠ 8 → G' 0 k = G 0 k) ∧ (∀ k, k ≠ 8 → G' 1 k = G 1 k) := by
  by_cases c6 : uc < 6
  · have c6' : (uc : Int) < 6 := by omega
    by_cases ca : uc < a
    · have e58 := hv.2.2.2.2.1 uc c6
      rw [if_pos ca] at e58
      have v3 := hv.2.2.2.1
      have := wp60 (d := d - 1) (L := L) (x := .null) (y := .null) (by omega) h hv ca rfl rfl
      obtain ⟨r1, X1, hS, B', G', hr, hX, q1, q2, q3, q4, q5, q6, q7, q8⟩ := E60 (d := d) (X := hp (4 * a) L B G) (Q := fun r1 X1 => ∃ B' G', r1 = some (vI (upA (nxG G n) uc n)) ∧ X1 = hp (4 * a) L B' G' ∧ uv B' G' (4 * a) (if (updS (nxG G n) n).1 = true then uc + 1 else uc) a ∧ ((updS (nxG G n) n).1 = true → upw B' (4 * uc + 129) (updS (nxG G n) n).2.2 ∧ G' 1 8 = ((4 * uc + 129 : Nat) : Int)) ∧ (¬ (updS (nxG G n) n).1 = true → G' 1 8 = G 1 8) ∧ G' 56 1 = 0 ∧ frU B B' (4 * uc + 129) ∧ (∀ c, c ≠ 0 → c ≠ 1 → c ≠ 56 → G' c = G c) ∧ (∀ k, k ≠ 8 → G' 0 k = G 0 k) ∧ (∀ k, k ≠ 8 → G' 1 k = G 1 k)) (by omega) (by
        simp (disch := first | omega | assumption) only [s60_0, m60_1, s60_4, s60_6, s60_9, s60_11, s60_12, m60_13, s60_16, m60_17, m60_20, s60_21, s60_21n, Int.toNat_natCast, Int.toNat_natCast, Nat.reduceAdd, Nat.reduceMul, Int.reduceToNat, Int.reduceAdd, Int.reduceLT, Int.reduceLE, Int.reduceEq, Int.reduceNeg, Int.reduceMul, Int.reduceSub, Nat.reduceSub, reduceIte, ite_true, ite_false, and_true, true_and, and_self, v3, c6', e58, nz_u]
        exact this)
      refine ⟨a, B', G', by rw [hr, hX] at hS; exact hS, Nat.le_refl _, ?_, fun e => ⟨ca, q2 e.2⟩, fun e => q3 (fun e2 => e ⟨c6, e2⟩), fun _ => q4, fun e => absurd c6 e, q5, fun c c0 c1 c2 _ => q6 c c0 c1 c2, q7, q8⟩
      by_cases e : (updS (nxG G n) n).1 = true
      · rw [if_pos e] at q1; rw [if_pos ⟨c6, e⟩]; exact q1
      · rw [if_neg e] at q1; rw [if_neg (fun e2 => e e2.2)]; exact q1
    · obtain rfl : uc = a := by have := hv.2.2.1; omega
      have e58 := hv.2.2.2.2.1 uc c6
      rw [if_neg ca] at e58
      have v3 := hv.2.2.2.1
      have e00 : nz 0 = .null := rfl
      obtain ⟨B1, s1, t1, f1⟩ := sp45 (d := d - 1) (L := L) (B := mk B (4 * uc + 129) (fun j => defaultValue (q_ty 7 j))) (G := G) (by omega) c6
      have h' : rdr (ug G 58 uc ((4 * uc + 129 : Nat) : Int)) n := ⟨by rw [ug_ne (by omega)]; exact h.1, h.2.1, by rw [ug_ne (by omega)]; exact h.2.2⟩
      have fB : ∀ c, (c < 4 * uc + 129 ∨ 4 * uc + 132 < c) → B1 c = B c := fun c hc => by rw [f1 c hc, mk_ne (by omega)]
      have hv' : uv B1 (ug G 58 uc ((4 * uc + 129 : Nat) : Int)) (4 * (uc + 1)) uc (uc + 1) := by
        refine ⟨rfl, by omega, by omega, by rw [ug_ne (by omega)]; exact v3, ?_, ?_⟩
        · intro j hj
          by_cases e : j = uc
          · rw [e, ug_at, if_pos (by omega)]
          · rw [ug_k e, hv.2.2.2.2.1 j hj]
            by_cases e2 : j < uc
            · rw [if_pos e2, if_pos (by omega)]
            · rw [if_neg e2, if_neg (by omega)]
        · intro j hj
          by_cases e : j = uc
          · rw [e]; exact t1
          · exact sho_f (hv.2.2.2.2.2 j (by omega)) (fB _ (by omega))
      have := wp60 (d := d - 1) (L := L) (x := .null) (y := .null) (by omega) h' hv' (by omega) rfl rfl
      rw [nxG_u (by omega)] at this
      obtain ⟨r1, X1, hS, B', G', hr, hX, q1, q2, q3, q4, q5, q6, q7, q8⟩ := E60 (d := d) (X := hp (4 * uc) L B G) (Q := fun r1 X1 => ∃ B' G', r1 = some (vI (upA (nxG G n) uc n)) ∧ X1 = hp (4 * (uc + 1)) L B' G' ∧ uv B' G' (4 * (uc + 1)) (if (updS (nxG G n) n).1 = true then uc + 1 else uc) (uc + 1) ∧ ((updS (nxG G n) n).1 = true → upw B' (4 * uc + 129) (updS (nxG G n) n).2.2 ∧ G' 1 8 = ((4 * uc + 129 : Nat) : Int)) ∧ (¬ (updS (nxG G n) n).1 = true → G' 1 8 = (ug G 58 uc ((4 * uc + 129 : Nat) : Int)) 1 8) ∧ G' 56 1 = 0 ∧ frU B1 B' (4 * uc + 129) ∧ (∀ c, c ≠ 0 → c ≠ 1 → c ≠ 56 → G' c = (ug G 58 uc ((4 * uc + 129 : Nat) : Int)) c) ∧ (∀ k, k ≠ 8 → G' 0 k = (ug G 58 uc ((4 * uc + 129 : Nat) : Int)) 0 k) ∧ (∀ k, k ≠ 8 → G' 1 k = (ug G 58 uc ((4 * uc + 129 : Nat) : Int)) 1 k)) (by omega) (by
        have hmem := (sh_n uc c6).2.2.2.2.2
        have hsh : (q_sh (4 * uc + 129)).1 = 7 := by rw [(sh_n uc c6).1]
        simp (disch := first | omega | assumption) only [s60_0, m60_1, s60_4, s60_6, s60_9, s60_11, s60_12, m60_13, s60_16, m60_17, m60_20, s60_21, s60_21n, s60_24, m60_25, s60_28, m60_29, s60_35, m60_39, Int.toNat_natCast, Int.toNat_natCast, Nat.reduceAdd, Nat.reduceMul, Int.reduceToNat, Int.reduceAdd, Int.reduceLT, Int.reduceLE, Int.reduceEq, Int.reduceNeg, Int.reduceMul, Int.reduceSub, Nat.reduceSub, reduceIte, ite_true, ite_false, and_true, true_and, and_self, v3, c6', e58, e00, n60, m60_36 hmem (by omega) s1]
        exact this)
      refine ⟨uc + 1, B', G', by rw [hr, hX] at hS; exact hS, by omega, ?_, fun e => ⟨by omega, q2 e.2⟩, fun e => ?_, fun _ => q4, fun e => absurd c6 e, ?_, fun c c0 c1 c2 c3 => by rw [q6 c c0 c1 c2, ug_ne c3], fun k hk => by rw [q7 k hk, ug_ne (by omega)], fun k hk => by rw [q8 k hk, ug_ne (by omega)]⟩
      · by_cases e : (updS (nxG G n) n).1 = true
        · rw [if_pos e] at q1; rw [if_pos ⟨c6, e⟩]; exact q1
        · rw [if_neg e] at q1; rw [if_neg (fun e2 => e e2.2)]; exact q1
      · rw [q3 (fun e2 => e ⟨c6, e2⟩), ug_ne (by omega)]
      · intro c c0 c1 c2 c3
        rw [q5 c c0 c1 c2 c3, fB c (by omega)]
  · have c6' : ¬ (uc : Int) < 6 := by omega
    have v1 := hv.2.1
    have v2 := hv.2.2.1
    have v3 := hv.2.2.2.1
    refine ⟨a, B, G, ?_, Nat.le_refl _, ?_, fun e => absurd e.1 c6, fun _ => rfl, fun e => absurd e c6, fun _ => rfl, frU_r B _, fun _ _ _ _ _ => rfl, fun _ _ => rfl, fun _ _ => rfl⟩
    · unfold upA
      rw [if_neg c6]
      refine e60 (by omega) ?_
      simp (disch := omega) only [s60_0, m60_1, s60_4, s60_6, s60_9, s60_11, Int.toNat_natCast, Int.toNat_natCast, Nat.reduceAdd, Nat.reduceMul, Int.reduceToNat, Int.reduceAdd, Int.reduceLT, Int.reduceLE, Int.reduceEq, Int.reduceNeg, Int.reduceMul, Int.reduceSub, Nat.reduceSub, reduceIte, ite_true, ite_false, and_true, true_and, and_self, v3, c6']
    · rw [if_neg (fun e => c6 e.1)]; exact hv
