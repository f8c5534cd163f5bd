/-! the model: isSeen, can -/
theorem lp176 {d n N L : Nat} {the : Int} {rc : List (Int × Int × List Int)} {B : q_Bv} {P H G0 : q_Gi} (hd : 5 ≤ d) (hP : Pok P) (hp0 : mpv G0 P) (hn : P 0 1 = (n : Int)) (hday : H 0 1 ≤ 9999) : ∀ (m k : Nat) (G : q_Gi), k + m = n → ms G H the rc → G 82 26 = 99999 → mq G0 G → WP d 176 4 [.ref 82, vI 1, vI k] [] (hp N L B G) (fun r1 X1 => ∃ G', r1 = some (vI (bI (entL (lsR 3 rc 0) P H m k = true))) ∧ X1 = hp N L B G' ∧ mv G' H ∧ G' 82 26 = 99999 ∧ mq G0 G') := by
  have hn5 : n ≤ 5 := by have := hP.2.1; omega
  intro m
  induction m with
  | zero =>
    intro k G hk h hM hfr
    have c0 : G 82 36 = (n : Int) := by rw [hfr.2 36 (by omega) (by omega) (by omega) (by omega) (by omega), hp0.2.1.1, hn]
    have h1 : ¬ (k : Int) < (n : Int) := by omega
    simp (disch := first | omega | assumption) only [s176_4, s176_5, m176_6, s176_9, s176_12, s176_13, s176_13b, s176_16, s176_20, s176_21, m176_22, s176_25, m176_26, s176_30, m176_31, s176_34, m176_35, s176_38, m176_39, m176_40, s176_41, m176_42, s176_45, m176_46, s176_47, s176_47b, s176_50, s176_51, s176_54, s176_55, s176_56, s176_60, s176_63, s176_66, s176_67, s176_67b, Int.toNat_natCast, Int.toNat_natCast, Nat.reduceAdd, Nat.reduceMul, Int.reduceToNat, Int.reduceAdd, Int.reduceLT, Int.reduceLE, Int.reduceEq, Int.reduceNeg, Int.reduceMul, Int.reduceSub, Nat.reduceSub, reduceIte, ite_true, ite_false, and_true, true_and, and_self, c0, h1, entL, bI]
    exact ⟨G, rfl, h.1, hM, hfr⟩
  | succ m ih =>
    intro k G hk h hM hfr
    have c0 : G 82 36 = (n : Int) := by rw [hfr.2 36 (by omega) (by omega) (by omega) (by omega) (by omega), hp0.2.1.1, hn]
    have h1 : (k : Int) < (n : Int) := by omega
    have o6 := hP.2.2.2.2.2.2.2.1 k (by omega)
    have o4 := hP.2.2.2.2.2.1 k (by omega)
    have o5 := hP.2.2.2.2.2.2.1 k (by omega)
    obtain ⟨D, hD⟩ : ∃ D : Nat, P 6 k = (D : Int) := ⟨(P 6 k).toNat, by omega⟩
    obtain ⟨b, hb⟩ : ∃ b : Nat, P 4 k = (b : Int) := ⟨(P 4 k).toNat, by omega⟩
    obtain ⟨G1, h160, w1, k1, m1, f1⟩ := sp160 (d := d) (N := N) (L := L) (B := B) (by omega) h.1
    have ms1 : ms G1 H the rc := ms_mq h (mq_sf f1) w1 h.2.1
    obtain ⟨G2, h156, w2, f2⟩ := sp156 (d := d) (n := D) (N := N) (L := L) (B := B) (by omega) ms1 (by omega) (by have := h.2.1.2.2.2.2.2.2.1; omega)
    have hg := lsR_r (w := 3) rc 0 (rcs_ok h.2.2.2) (by omega)
    have ok2 := daysS_ok hg D H h.2.1 (by omega)
    have hfr1 := mq_t hfr (mq_sf f1)
    have hfr2 := mq_t hfr1 (mq_mf f2)
    have p6 : G1 106 k = (D : Int) := by rw [hfr1.1 106 (by omega) (by omega) (by omega) (by omega), hp0.2.1.2.2.2 k (by omega), hD]
    have p4 : G2 104 k = (b : Int) := by rw [hfr2.1 104 (by omega) (by omega) (by omega) (by omega), hp0.2.1.2.1 k (by omega), hb]
    have p5 : G2 105 k = P 5 k := by rw [hfr2.1 105 (by omega) (by omega) (by omega) (by omega), hp0.2.1.2.2.1 k (by omega)]
    have wf := w2.2.2.2.2.2.1 b (by omega)
    have hwf := ok2.2.2.2.1 b (by omega)
    obtain ⟨G3, h161, w3, m3, f3⟩ := sp161 (d := d) (N := N) (L := L) (B := B) (by omega) w2 (sameK_days _ D H) (ks_f k1 f2)
    have hfr3 := mq_t hfr2 (mq_pb f3)
    have ee : entS (lsR 3 rc 0) P H k = decide (daysS (lsR 3 rc 0) D H 3 b = P 5 k) := by unfold entS; rw [hD, hb, Int.toNat_natCast, Int.toNat_natCast]
    have e0 : entL (lsR 3 rc 0) P H (m + 1) k = if entS (lsR 3 rc 0) P H k = true then entL (lsR 3 rc 0) P H m (k + 1) else false := rfl
    rw [e0, ee]
    rw [s176_4]
    by_cases c : daysS (lsR 3 rc 0) D H 3 b = P 5 k
    · rw [if_pos (decide_eq_true c)]
      have c' := eq_true c
      have := ih (k + 1) G3 (by omega) (ms_mq h (mq_t (mq_sf f1) (mq_t (mq_mf f2) (mq_pb f3))) w3 h.2.1) m3 hfr3
      simp (disch := first | omega | assumption) only [s176_5, m176_6, s176_9, s176_12, s176_13, s176_13b, s176_16, s176_20, s176_21, m176_22, s176_25, m176_26, s176_30, m176_31, s176_34, m176_35, s176_38, m176_39, m176_40, s176_41, m176_42, s176_45, m176_46, s176_47, s176_47b, s176_50, s176_51, s176_54, s176_55, s176_56, s176_60, s176_63, Int.toNat_natCast, Int.toNat_natCast, Nat.reduceAdd, Nat.reduceMul, Int.reduceToNat, Int.reduceAdd, Int.reduceLT, Int.reduceLE, Int.reduceEq, Int.reduceNeg, Int.reduceMul, Int.reduceSub, Nat.reduceSub, reduceIte, ite_true, ite_false, and_true, true_and, and_self, c0, h1, m176_17 h160, p6, m176_27 h156, p4, p5, wf, c', if_true, m176_57 h161]
      exact this
    · rw [if_neg (fun e => c (of_decide_eq_true e))]
      have c' := eq_false c
      have c03 : G3 82 36 = (n : Int) := by rw [hfr3.2 36 (by omega) (by omega) (by omega) (by omega) (by omega), hp0.2.1.1, hn]
      have key : WP d 176 4 [.ref 82, vI 0, vI ((k : Int) + 1)] [] (hp N L B G3) (fun r1 X1 => ∃ G', r1 = some (vI (bI (false = true))) ∧ X1 = hp N L B G' ∧ mv G' H ∧ G' 82 26 = 99999 ∧ mq G0 G') := by
        have ez : bI (false = true) = 0 := rfl
        rw [ez]
        by_cases c2 : (k : Int) + 1 < (n : Int)
        · simp (disch := first | omega | assumption) only [s176_4, s176_5, m176_6, s176_9, s176_12, s176_13, s176_13b, s176_66, s176_67, s176_67b, Int.toNat_natCast, Int.toNat_natCast, Nat.reduceAdd, Nat.reduceMul, Int.reduceToNat, Int.reduceAdd, Int.reduceLT, Int.reduceLE, Int.reduceEq, Int.reduceNeg, Int.reduceMul, Int.reduceSub, Nat.reduceSub, reduceIte, ite_true, ite_false, and_true, true_and, and_self, c03, c2]
          exact ⟨G3, rfl, w3, m3, hfr3⟩
        · simp (disch := first | omega | assumption) only [s176_4, s176_5, m176_6, s176_9, s176_12, s176_13, s176_13b, s176_66, s176_67, s176_67b, Int.toNat_natCast, Int.toNat_natCast, Nat.reduceAdd, Nat.reduceMul, Int.reduceToNat, Int.reduceAdd, Int.reduceLT, Int.reduceLE, Int.reduceEq, Int.reduceNeg, Int.reduceMul, Int.reduceSub, Nat.reduceSub, reduceIte, ite_true, ite_false, and_true, true_and, and_self, c03, c2]
          exact ⟨G3, rfl, w3, m3, hfr3⟩
      simp (disch := first | omega | assumption) only [s176_5, m176_6, s176_9, s176_12, s176_13, s176_13b, s176_16, s176_20, s176_21, m176_22, s176_25, m176_26, s176_30, m176_31, s176_34, m176_35, s176_38, m176_39, m176_40, s176_41, m176_42, s176_45, m176_46, s176_47, s176_47b, s176_50, s176_51, s176_54, s176_55, s176_56, s176_60, s176_63, Int.toNat_natCast, Int.toNat_natCast, Nat.reduceAdd, Nat.reduceMul, Int.reduceToNat, Int.reduceAdd, Int.reduceLT, Int.reduceLE, Int.reduceEq, Int.reduceNeg, Int.reduceMul, Int.reduceSub, Nat.reduceSub, reduceIte, ite_true, ite_false, and_true, true_and, and_self, c0, h1, m176_17 h160, p6, m176_27 h156, p4, p5, wf, c', if_false, m176_57 h161]
      exact key
theorem sp176 {d N L : Nat} {the : Int} {rc : List (Int × Int × List Int)} {B : q_Bv} {P H G : q_Gi} (hd : 6 ≤ d) (hP : Pok P) (hp0 : mpv G P) (hday : H 0 1 ≤ 9999) (h : ms G H the rc) (hM : G 82 26 = 99999) : ∃ G', Sp d 176 [.ref 82] (hp N L B G) (some (vI (bI (seenS (lsR 3 rc 0) P 31 0 H = true)))) (hp N L B G') ∧ mv G' H ∧ G' 82 26 = 99999 ∧ mq G G' := by
  rw [seen_ent hP]
  obtain ⟨n, hn⟩ : ∃ n : Nat, P 0 1 = (n : Int) := ⟨(P 0 1).toNat, by have := hP.2.1; omega⟩
  rw [hn, Int.toNat_natCast]
  obtain ⟨r1, X1, hS, G', hr, hX, q⟩ := E176 (d := d) (X := hp N L B G) (Q := fun r1 X1 => ∃ G', r1 = some (vI (bI (entL (lsR 3 rc 0) P H n 0 = true))) ∧ X1 = hp N L B G' ∧ mv G' H ∧ G' 82 26 = 99999 ∧ mq G G') (by omega) (by
    simp (disch := omega) only [s176_0, s176_1, s176_2, s176_3, Int.toNat_natCast, Int.toNat_natCast, Nat.reduceAdd, Nat.reduceMul, Int.reduceToNat, Int.reduceAdd, Int.reduceLT, Int.reduceLE, Int.reduceEq, Int.reduceNeg, Int.reduceMul, Int.reduceSub, Nat.reduceSub, reduceIte, ite_true, ite_false, and_true, true_and, and_self]
    exact lp176 (d := d - 1) (by omega) hP hp0 hn hday n 0 G (by omega) h hM (mq_r G))
  exact ⟨G', by rw [hr, hX] at hS; exact hS, q⟩
theorem can_sh {g : Int} {H P : q_Gi} {b : Nat} : ∀ (m v : Nat) (many least : Int), (least = -5 ∨ 0 ≤ least) → canS g H P b m v many least = (many + (canS g H P b m v 0 (-5)).1, if least = -5 then (canS g H P b m v 0 (-5)).2 else least) := by
  intro m
  induction m with
  | zero =>
    intro v many least hl
    show (many, least) = (many + 0, if least = -5 then -5 else least)
    by_cases c : least = -5
    · rw [if_pos c, c, Int.add_zero]
    · rw [if_neg c, Int.add_zero]
  | succ m ih =>
    intro v many least hl
    have e0 : ∀ many least, canS g H P b (m + 1) v many least = if seenS g P 31 0 (vsetS H b v) = true then canS g H P b m (v + 1) (many + 1) (if least = -5 then (v : Int) else least) else canS g H P b m (v + 1) many least := fun _ _ => rfl
    rw [e0 many least, e0 0 (-5)]
    by_cases c : seenS g P 31 0 (vsetS H b v) = true
    · rw [if_pos c, if_pos c, ih (v + 1) (many + 1) (if least = -5 then (v : Int) else least) (by split <;> omega), ih (v + 1) (0 + 1) (if (-5 : Int) = -5 then (v : Int) else -5) (by rw [if_pos rfl]; omega)]
      have hv : ¬ (v : Int) = -5 := by omega
      by_cases cl : least = -5
      · rw [if_pos cl, if_pos rfl, if_neg hv, if_pos cl]
        simp only [Prod.mk.injEq]
        exact ⟨by omega, trivial⟩
      · rw [if_neg cl, if_neg cl, if_neg cl]
        simp only [Prod.mk.injEq]
        exact ⟨by omega, trivial⟩
    · rw [if_neg c, if_neg c]
      exact ih (v + 1) many least hl
theorem can_r {g : Int} {H P : q_Gi} {b : Nat} : ∀ (m v : Nat), v + m ≤ 10 → (0 ≤ (canS g H P b m v 0 (-5)).1 ∧ (canS g H P b m v 0 (-5)).1 ≤ (m : Int)) ∧ ((canS g H P b m v 0 (-5)).2 = -5 ∨ (0 ≤ (canS g H P b m v 0 (-5)).2 ∧ (canS g H P b m v 0 (-5)).2 ≤ 20)) := by
  intro m
  induction m with
  | zero => intro v _; exact ⟨⟨Int.le_refl _, Int.le_refl _⟩, Or.inl rfl⟩
  | succ m ih =>
    intro v hm
    have e0 : canS g H P b (m + 1) v 0 (-5) = if seenS g P 31 0 (vsetS H b v) = true then canS g H P b m (v + 1) (0 + 1) (if (-5 : Int) = -5 then (v : Int) else -5) else canS g H P b m (v + 1) 0 (-5) := rfl
    have h := ih (v + 1) (by omega)
    rw [e0]
    by_cases c : seenS g P 31 0 (vsetS H b v) = true
    · rw [if_pos c, can_sh m (v + 1) (0 + 1) _ (by rw [if_pos rfl]; omega), if_pos rfl, if_neg (by omega)]
      simp only []
      omega
    · rw [if_neg c]; omega
theorem mv_vset {G H : q_Gi} {b : Nat} {x y : Int} (h : mv G (vsetS H b x)) : mv (ug G 84 b y) (vsetS H b y) := by
  unfold vsetS at h ⊢
  obtain ⟨v0, v1, v2, vk, vv, vf, vr, vs⟩ := h
  refine ⟨by rw [ug_ne (by omega), setS_ne (by omega)]; rw [setS_ne (by omega)] at v0; exact v0, by rw [ug_ne (by omega), setS_ne (by omega)]; rw [setS_ne (by omega)] at v1; exact v1, by rw [ug_ne (by omega), setS_ne (by omega)]; rw [setS_ne (by omega)] at v2; exact v2, by rw [ug_ne (by omega), setS_ne (by omega)]; rw [setS_ne (by omega)] at vk; exact vk, ?_, by rw [ug_ne (by omega), setS_ne (by omega)]; rw [setS_ne (by omega)] at vf; exact vf, by rw [ug_ne (by omega), setS_ne (by omega)]; rw [setS_ne (by omega)] at vr; exact vr, by rw [ug_ne (by omega), setS_ne (by omega)]; rw [setS_ne (by omega)] at vs; exact vs⟩
  intro k hk
  by_cases c : k = b
  · rw [c, ug_at, setS_at]
  · rw [ug_k c, setS_k c]
    have := vv k hk
    rw [setS_k c] at this
    exact this
theorem vset_id {H : q_Gi} {b : Nat} : vsetS H b (H 2 b) = H := by
  funext f k
  unfold vsetS setS
  by_cases c : f = 2 ∧ k = b
  · rw [if_pos c, c.1, c.2]
  · rw [if_neg c]
/-- can's frame: v too -/
def mqv (G G' : q_Gi) : Prop := (∀ a, a ≠ 82 → a ≠ 84 → a ≠ 85 → a ≠ 87 → (a < 97 ∨ 102 < a) → G' a = G a) ∧ ∀ k, k ≠ 1 → k ≠ 2 → k ≠ 26 → k ≠ 27 → k ≠ 28 → G' 82 k = G 82 k
theorem mqv_t {G G' G'' : q_Gi} (h1 : mqv G G') (h2 : mqv G' G'') : mqv G G'' := ⟨fun a x v y z w => (h2.1 a x v y z w).trans (h1.1 a x v y z w), fun k x y z w u => (h2.2 k x y z w u).trans (h1.2 k x y z w u)⟩
theorem mqv_q {G G' : q_Gi} (h : mq G G') : mqv G G' := ⟨fun a x _ y z w => h.1 a x y z w, h.2⟩
theorem mqv_v {G : q_Gi} {b : Nat} {z : Int} : mqv G (ug G 84 b z) := ⟨fun a _ v _ _ _ => ug_ne v, fun k _ _ _ _ _ => by rw [ug_ne (by omega)]⟩
theorem lp177 {d b N L : Nat} {the w was : Int} {rc : List (Int × Int × List Int)} {B : q_Bv} {P H G0 : q_Gi} (hd : 7 ≤ d) (hP : Pok P) (hp0 : mpv G0 P) (hm0 : mu G0 the rc) (h90 : G0 82 9 = the) (ho : Hok H) (hb : b < 6) (hday : H 0 1 ≤ 9999) {Q : Option Value → q_H → Prop} : ∀ (m : Nat) (x : Int) (G : q_Gi), m ≤ 10 → mv G (vsetS H b x) → G 82 26 = 99999 → mqv G0 G → (∀ (G' : q_Gi) (x z : Int), mv G' (vsetS H b x) → G' 82 26 = 99999 → mqv G0 G' → WP d 177 74 [.ref 82, vI b, vI w, vI was, vI (canS (lsR 3 rc 0) H P b 10 0 0 (-5)).1, vI (canS (lsR 3 rc 0) H P b 10 0 0 (-5)).2, vI z] [] (hp N L B G') Q) → WP d 177 38 [.ref 82, vI b, vI w, vI was, vI (canS (lsR 3 rc 0) H P b (10 - m) m 0 (-5)).1, vI (canS (lsR 3 rc 0) H P b (10 - m) m 0 (-5)).2, vI ((m : Int) - 1)] [] (hp N L B G) Q := by
  intro m
  induction m with
  | zero =>
    intro x G hm hv hM hfr hQ
    have := hQ G x (-1) hv hM hfr
    simp (disch := omega) only [s177_38, s177_40, Int.toNat_natCast, Int.toNat_natCast, Nat.reduceAdd, Nat.reduceMul, Int.reduceToNat, Int.reduceAdd, Int.reduceLT, Int.reduceLE, Int.reduceEq, Int.reduceNeg, Int.reduceMul, Int.reduceSub, Nat.reduceSub, reduceIte, ite_true, ite_false, and_true, true_and, and_self, show ((0 : Nat) : Int) - 1 = -1 from rfl]
    exact this
  | succ m ih =>
    intro x G hm hv hM hfr hQ
    have e1 : ((m + 1 : Nat) : Int) - 1 = (m : Int) := by omega
    have h1 : ¬ (m : Int) < 0 := by omega
    have hv1 := mv_vset (y := (m : Int)) hv
    have ok1 := vsetS_ok (b := b) (v := (m : Int)) ho (by omega)
    have fr1 : mqv G0 (ug G 84 b (m : Int)) := mqv_t hfr mqv_v
    have ms1 : ms (ug G 84 b (m : Int)) (vsetS H b (m : Int)) the rc := ⟨hv1, ok1, by rw [fr1.2 9 (by omega) (by omega) (by omega) (by omega) (by omega)]; exact h90, mu_f hm0 (fun a _ _ => fr1.1 a (by omega) (by omega) (by omega) (by omega) (by omega))⟩
    obtain ⟨G1, h176, w1, m1, f1⟩ := sp176 (d := d) (N := N) (L := L) (B := B) (by omega) hP (mpv_f hp0 (fun a _ _ => fr1.1 a (by omega) (by omega) (by omega) (by omega) (by omega)) (fun k _ _ => fr1.2 k (by omega) (by omega) (by omega) (by omega) (by omega))) (by have : vsetS H b (m : Int) 0 1 = H 0 1 := rfl; omega) ms1 (by rw [ug_ne (by omega)]; exact hM)
    have fr2 := mqv_t fr1 (mqv_q f1)
    have cr := @can_r (lsR 3 rc 0) H P b (10 - (m + 1)) (m + 1) (by omega)
    have := ih (m : Int) G1 (by omega) w1 m1 fr2 hQ
    rw [show 10 - m = 10 - (m + 1) + 1 by omega] at this
    have e0 : canS (lsR 3 rc 0) H P b (10 - (m + 1) + 1) m 0 (-5) = if seenS (lsR 3 rc 0) P 31 0 (vsetS H b m) = true then canS (lsR 3 rc 0) H P b (10 - (m + 1)) (m + 1) (0 + 1) (if (-5 : Int) = -5 then (m : Int) else -5) else canS (lsR 3 rc 0) H P b (10 - (m + 1)) (m + 1) 0 (-5) := rfl
    rw [e0] at this
    rw [e1]
    rw [s177_38]
    by_cases c : seenS (lsR 3 rc 0) P 31 0 (vsetS H b m) = true
    · rw [if_pos c, can_sh _ _ (0 + 1) _ (by rw [if_pos rfl]; omega), if_pos rfl, if_neg (by omega)] at this
      rw [bI_t c] at h176
      simp (disch := omega) only [s177_40, s177_43, m177_44, s177_47, s177_48, m177_50, s177_51, s177_55, s177_55b, s177_58, s177_61, s177_64, s177_66, s177_68, s177_71, Int.toNat_natCast, Int.toNat_natCast, Nat.reduceAdd, Nat.reduceMul, Int.reduceToNat, Int.reduceAdd, Int.reduceLT, Int.reduceLE, Int.reduceEq, Int.reduceNeg, Int.reduceMul, Int.reduceSub, Nat.reduceSub, reduceIte, ite_true, ite_false, and_true, true_and, and_self, h1, m177_52 h176]
      rw [show 0 + 1 + (canS (lsR 3 rc 0) H P b (10 - (m + 1)) (m + 1) 0 (-5)).1 = (canS (lsR 3 rc 0) H P b (10 - (m + 1)) (m + 1) 0 (-5)).1 + 1 by omega] at this
      exact this
    · rw [if_neg c] at this
      rw [bI_f c] at h176
      simp (disch := omega) only [s177_40, s177_43, m177_44, s177_47, s177_48, m177_50, s177_51, s177_55, s177_55b, s177_58, s177_61, s177_64, s177_66, s177_68, s177_71, Int.toNat_natCast, Int.toNat_natCast, Nat.reduceAdd, Nat.reduceMul, Int.reduceToNat, Int.reduceAdd, Int.reduceLT, Int.reduceLE, Int.reduceEq, Int.reduceNeg, Int.reduceMul, Int.reduceSub, Nat.reduceSub, reduceIte, ite_true, ite_false, and_true, true_and, and_self, h1, m177_52 h176]
      exact this
theorem sp177 {d N L : Nat} {the b w : Int} {rc : List (Int × Int × List Int)} {B : q_Bv} {G H P : q_Gi} (hd : 9 ≤ d) (h : ms G H the rc) (hp' : mpv G P) (hP : Pok P) (hday : H 0 1 ≤ 9999) (hM : G 82 26 = 99999) (hb : -2147483648 ≤ b ∧ b ≤ 2147483647) (hw : -2147483648 ≤ w ∧ w ≤ 2147483647) : ∃ G', Sp d 177 [.ref 82, vI b, vI w] (hp N L B G) (some (vI (r76 (lsR 3 rc 0) H P b w))) (hp N L B G') ∧ mv G' H ∧ G' 82 26 = 99999 ∧ mqv G G' := by
  have h0 := h
  obtain ⟨hv, ho, h9, hm⟩ := h
  have v0 := hv.1
  have hb6 := ho.1
  have a1 := sp113 (d := d - 1) (z := b) (N := N) (L := L) (B := B) (G := G) (by omega) hb (by rw [v0]; exact ho.1)
  rw [v0] at a1
  have a2 := sp109 (d := d - 1) (z := w) (lo := 0) (hi := 1) (X := hp N L B G) (by omega) hw (by omega) (by omega)
  unfold r76
  by_cases cb : 0 ≤ b ∧ b < H 0 0
  · rw [bI_t cb] at a1
    by_cases cw : 0 ≤ w ∧ w ≤ 1
    · rw [bI_t cw] at a2
      rw [if_pos ⟨cb, by omega⟩]
      obtain ⟨n, rfl⟩ : ∃ n : Nat, b = (n : Int) := ⟨b.toNat, by omega⟩
      rw [Int.toNat_natCast]
      have vv := hv.2.2.2.2.1 n (by omega)
      obtain ⟨r1, X1, hS, G', hr, hX, q⟩ := E177 (d := d) (X := hp N L B G) (z1 := (n : Int)) (z2 := w) (Q := fun r1 X1 => ∃ G', r1 = some (vI (if w = 0 then (canS (lsR 3 rc 0) H P n 10 0 0 (-5)).1 else (canS (lsR 3 rc 0) H P n 10 0 0 (-5)).2)) ∧ X1 = hp N L B G' ∧ mv G' H ∧ G' 82 26 = 99999 ∧ mqv G G') (by omega) (by
        simp (disch := omega) only [s177_0, s177_1, s177_5, s177_5b, s177_8, s177_9, s177_10, s177_11, s177_15, s177_15b, s177_18, s177_19, s177_20, m177_21, s177_24, m177_25, s177_26, s177_27, s177_28, s177_30, s177_32, s177_34, s177_36, Int.toNat_natCast, Int.toNat_natCast, Nat.reduceAdd, Nat.reduceMul, Int.reduceToNat, Int.reduceAdd, Int.reduceLT, Int.reduceLE, Int.reduceEq, Int.reduceNeg, Int.reduceMul, Int.reduceSub, Nat.reduceSub, reduceIte, ite_true, ite_false, and_true, true_and, and_self, m177_2 a1, m177_12 a2, vv]
        refine lp177 (d := d - 1) (by omega) hP hp' hm h9 ho (by omega) hday 10 (H 2 n) G (Nat.le_refl _) (by rw [vset_id]; exact hv) hM (mqv_q (mq_r G)) (fun G' x z q1 q2 q3 => ?_)
        have q1' := mv_vset (y := H 2 n) q1
        rw [vset_id] at q1'
        by_cases c : w = 0
        · rw [if_pos c]
          have c' := eq_true c
          simp (disch := omega) only [s177_74, m177_75, s177_78, s177_79, m177_80, s177_81, s177_82, s177_82b, s177_85, s177_87, s177_90, s177_92, Int.toNat_natCast, Int.toNat_natCast, Nat.reduceAdd, Nat.reduceMul, Int.reduceToNat, Int.reduceAdd, Int.reduceLT, Int.reduceLE, Int.reduceEq, Int.reduceNeg, Int.reduceMul, Int.reduceSub, Nat.reduceSub, reduceIte, ite_true, ite_false, and_true, true_and, and_self, c', if_true]
          exact ⟨_, rfl, q1', by rw [ug_ne (by omega)]; exact q2, mqv_t q3 mqv_v⟩
        · rw [if_neg c]
          have c' := eq_false c
          simp (disch := omega) only [s177_74, m177_75, s177_78, s177_79, m177_80, s177_81, s177_82, s177_82b, s177_85, s177_87, s177_90, s177_92, Int.toNat_natCast, Int.toNat_natCast, Nat.reduceAdd, Nat.reduceMul, Int.reduceToNat, Int.reduceAdd, Int.reduceLT, Int.reduceLE, Int.reduceEq, Int.reduceNeg, Int.reduceMul, Int.reduceSub, Nat.reduceSub, reduceIte, ite_true, ite_false, and_true, true_and, and_self, c', if_false]
          exact ⟨_, rfl, q1', by rw [ug_ne (by omega)]; exact q2, mqv_t q3 mqv_v⟩)
      exact ⟨G', by rw [hr, hX] at hS; exact hS, q⟩
    · rw [bI_f cw] at a2
      refine ⟨G, ?_, hv, hM, mqv_q (mq_r G)⟩
      rw [if_neg (fun e => cw (by omega))]
      refine e177 (by omega) ?_
      simp (disch := omega) only [s177_0, s177_1, s177_5, s177_5b, s177_8, s177_9, s177_10, s177_11, s177_15, s177_15b, s177_18, s177_19, Int.toNat_natCast, Int.toNat_natCast, Nat.reduceAdd, Nat.reduceMul, Int.reduceToNat, Int.reduceAdd, Int.reduceLT, Int.reduceLE, Int.reduceEq, Int.reduceNeg, Int.reduceMul, Int.reduceSub, Nat.reduceSub, reduceIte, ite_true, ite_false, and_true, true_and, and_self, m177_2 a1, m177_12 a2]
  · rw [bI_f cb] at a1
    refine ⟨G, ?_, hv, hM, mqv_q (mq_r G)⟩
    rw [if_neg (fun e => cb e.1)]
    refine e177 (by omega) ?_
    simp (disch := omega) only [s177_0, s177_1, s177_5, s177_5b, s177_8, s177_9, s177_10, s177_11, s177_15, s177_15b, s177_18, s177_19, Int.toNat_natCast, Int.toNat_natCast, Nat.reduceAdd, Nat.reduceMul, Int.reduceToNat, Int.reduceAdd, Int.reduceLT, Int.reduceLE, Int.reduceEq, Int.reduceNeg, Int.reduceMul, Int.reduceSub, Nat.reduceSub, reduceIte, ite_true, ite_false, and_true, true_and, and_self, m177_2 a1]
