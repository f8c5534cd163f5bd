/-! the class reads a whole text -/
def updL (nx : Nat → Int) (n : Nat) : Nat → Nat → Int × Int × List (Int × List Int) → Nat → Bool × Nat × Int × Int × List (Int × List Int)
  | 0, _, st, p => (false, p, st)
  | k + 1, c, st, p => if 0 < c ∧ ¬ nx p = 59 then (false, p, st) else if (clzS nx st (if 0 < c then p + 1 else p)).1 = true then (if (clzS nx st (if 0 < c then p + 1 else p)).2.1 = n then (true, n, (clzS nx st (if 0 < c then p + 1 else p)).2.2) else updL nx n k (c + 1) (clzS nx st (if 0 < c then p + 1 else p)).2.2 (clzS nx st (if 0 < c then p + 1 else p)).2.1) else (false, (clzS nx st (if 0 < c then p + 1 else p)).2.1, (clzS nx st (if 0 < c then p + 1 else p)).2.2)
def updS (nx : Nat → Int) (n : Nat) : Bool × Nat × Int × Int × List (Int × List Int) := updL nx n 10 0 (9, 0, []) 0
theorem clz_n {nx : Nat → Int} {p : Nat} {st : Int × Int × List (Int × List Int)} : (clzS nx st p).2.2.2.2.length ≤ st.2.2.length + 1 := by
  have hl : ∀ w sg, (likS nx st w sg p).2.2.2.2.length ≤ st.2.2.length + 1 := by
    intro w sg
    unfold likS
    by_cases c1 : (nbS nx w p).1 < 0
    · rw [if_pos c1]; exact Nat.le_succ _
    rw [if_neg c1]
    by_cases c2 : nx (nbS nx w p).2 = 32
    · rw [if_pos c2]
      by_cases c3 : (eitS nx (oneS nx 4) ((nbS nx w p).2 + 1)).1 = true
      · rw [if_pos c3]
        simp only [List.length_append, List.length_cons, List.length_nil]; omega
      · rw [if_neg c3]; exact Nat.le_succ _
    · rw [if_neg c2]; exact Nat.le_succ _
  unfold clzS
  by_cases c1 : nx p = 116
  · rw [if_pos c1]; exact Nat.le_succ _
  rw [if_neg c1]
  by_cases c2 : nx p = 103
  · rw [if_pos c2]; exact Nat.le_succ _
  rw [if_neg c2]
  by_cases c3 : nx (p + 1) = 111
  · rw [if_pos c3]; exact hl _ _
  · rw [if_neg c3]; exact hl _ _
theorem lp24 {u n N L : Nat} {G : q_Gi} {d : Nat} (hd : 27 ≤ d) (h : rdr G n) (hu : uar u N) (hG : G 56 3 = (u : Int)) : ∀ (k c : Nat) (st : Int × Int × List (Int × List Int)) (p : Nat) (B0 B : q_Bv), c + k = 10 → p ≤ n → upw B u st → (flat st.2.2).length ≤ p → st.2.2.length ≤ c → frU B0 B u → WP d 24 19 [.ref 56, .ref u, vI c] [] (hp N L B (ug G 56 2 p)) (fun r1 X1 => ∃ B', r1 = some (vI (bI ((updL (nxG G n) n k c st p).1 = true))) ∧ X1 = hp N L B' (ug G 56 2 ((updL (nxG G n) n k c st p).2.1 : Nat)) ∧ okC B0 B' u (updL (nxG G n) n k c st p)) := by
  have hn := h.2.1
  have ht := txt_of h
  obtain ⟨u1, u2, u3, u4, u5, u6, u7⟩ := id hu
  intro k
  induction k with
  | zero =>
    intro c st p B0 B hc hpn hw hl hcl hfr
    have h1 : ¬ (c : Int) < 10 := by omega
    simp (disch := omega) only [s24_19, s24_20, s24_22, s24_66, s24_67, s24_67b, Int.toNat_natCast, Int.toNat_natCast, Nat.reduceAdd, Nat.reduceMul, Int.reduceToNat, Int.reduceAdd, Int.reduceLT, Int.reduceLE, Int.reduceEq, Int.reduceNeg, Int.reduceMul, Int.reduceSub, Nat.reduceSub, reduceIte, ite_true, ite_false, and_true, true_and, and_self, h1]
    refine ⟨B, rfl, rfl, fun e => absurd e Bool.false_ne_true, upw_sho hw, hfr⟩
  | succ k ih =>
    intro c st p B0 B hc hpn hw hl hcl hfr
    have h1 : (c : Int) < 10 := by omega
    -- behind the ';'
    have key : ∀ (q : Nat), q ≤ n → p ≤ q → (updL (nxG G n) n (k + 1) c st p = if (clzS (nxG G n) st q).1 = true then (if (clzS (nxG G n) st q).2.1 = n then (true, n, (clzS (nxG G n) st q).2.2) else updL (nxG G n) n k (c + 1) (clzS (nxG G n) st q).2.2 (clzS (nxG G n) st q).2.1) else (false, (clzS (nxG G n) st q).2.1, (clzS (nxG G n) st q).2.2)) → WP d 24 38 [.ref 56, .ref u, vI c] [] (hp N L B (ug G 56 2 q)) (fun r1 X1 => ∃ B', r1 = some (vI (bI ((updL (nxG G n) n (k + 1) c st p).1 = true))) ∧ X1 = hp N L B' (ug G 56 2 ((updL (nxG G n) n (k + 1) c st p).2.1 : Nat)) ∧ okC B0 B' u (updL (nxG G n) n (k + 1) c st p)) := by
      intro q hq hpq e
      rw [e]
      obtain ⟨B1, s1, t1, t2, t3⟩ := sp25 (d := d) (L := L) (by omega) h hu hG hq hw (by omega) (by omega)
      obtain ⟨gc1, gc2, gc3⟩ := clz_g (st := st) ht hq
      have gn := @clz_n (nxG G n) q st
      by_cases c1 : (clzS (nxG G n) st q).1 = true
      · rw [if_pos c1]
        rw [bI_t c1] at s1
        by_cases c2 : (clzS (nxG G n) st q).2.1 = n
        · rw [if_pos c2]
          have c2' : (((clzS (nxG G n) st q).2.1 : Nat) : Int) = (n : Int) := by omega
          rw [c2] at s1
          simp (disch := omega) only [s24_38, s24_42, s24_42b, s24_45, s24_46, s24_46b, s24_47, m24_48, s24_51, m24_52, s24_55, s24_55b, s24_58, s24_59, s24_59b, Int.toNat_natCast, Int.toNat_natCast, Nat.reduceAdd, Nat.reduceMul, Int.reduceToNat, Int.reduceAdd, Int.reduceLT, Int.reduceLE, Int.reduceEq, Int.reduceNeg, Int.reduceMul, Int.reduceSub, Nat.reduceSub, reduceIte, ite_true, ite_false, and_true, true_and, and_self, m24_39 s1, ug_at, ug_k, h.1]
          refine ⟨B1, rfl, rfl, fun _ => t1 c1, t2, frU_t hfr t3⟩
        · rw [if_neg c2]
          have c2' : ¬ (((clzS (nxG G n) st q).2.1 : Nat) : Int) = (n : Int) := by omega
          have := ih (c + 1) (clzS (nxG G n) st q).2.2 (clzS (nxG G n) st q).2.1 B0 B1 (by omega) gc2 (t1 c1) (gc3 (by omega)) (by omega) (frU_t hfr t3)
          simp (disch := omega) only [s24_38, s24_42, s24_42b, s24_45, s24_46, s24_46b, s24_47, m24_48, s24_51, m24_52, s24_55, s24_55b, s24_58, s24_59, s24_59b, s24_60, s24_63, Int.toNat_natCast, Int.toNat_natCast, Nat.reduceAdd, Nat.reduceMul, Int.reduceToNat, Int.reduceAdd, Int.reduceLT, Int.reduceLE, Int.reduceEq, Int.reduceNeg, Int.reduceMul, Int.reduceSub, Nat.reduceSub, reduceIte, ite_true, ite_false, and_true, true_and, and_self, m24_39 s1, ug_at, ug_k, h.1, c2']
          exact this
      · rw [if_neg c1]
        rw [bI_f c1] at s1
        simp (disch := omega) only [s24_38, s24_42, s24_42b, s24_45, s24_46, s24_46b, Int.toNat_natCast, Int.toNat_natCast, Nat.reduceAdd, Nat.reduceMul, Int.reduceToNat, Int.reduceAdd, Int.reduceLT, Int.reduceLE, Int.reduceEq, Int.reduceNeg, Int.reduceMul, Int.reduceSub, Nat.reduceSub, reduceIte, ite_true, ite_false, and_true, true_and, and_self, m24_39 s1]
        refine ⟨B1, rfl, rfl, fun e => absurd e Bool.false_ne_true, t2, frU_t hfr t3⟩
    by_cases c0 : 0 < c
    · have c0' : 0 < (c : Int) := by omega
      by_cases c1 : nxG G n p = 59
      · have l := txt_lt ht (by decide) c1
        have h30 := sp30_t (d := d) (N := N) (L := L) (B := B) (by omega) h (by decide) c1
        have := key (p + 1) (by omega) (by omega) (by
          rw [show updL (nxG G n) n (k + 1) c st p = if 0 < c ∧ ¬ nxG G n p = 59 then (false, p, st) else if (clzS (nxG G n) st (if 0 < c then p + 1 else p)).1 = true then (if (clzS (nxG G n) st (if 0 < c then p + 1 else p)).2.1 = n then (true, n, (clzS (nxG G n) st (if 0 < c then p + 1 else p)).2.2) else updL (nxG G n) n k (c + 1) (clzS (nxG G n) st (if 0 < c then p + 1 else p)).2.2 (clzS (nxG G n) st (if 0 < c then p + 1 else p)).2.1) else (false, (clzS (nxG G n) st (if 0 < c then p + 1 else p)).2.1, (clzS (nxG G n) st (if 0 < c then p + 1 else p)).2.2) from rfl]
          rw [if_neg (fun hh => hh.2 c1), if_pos c0])
        simp (disch := omega) only [s24_19, s24_20, s24_22, s24_25, s24_26, s24_29, s24_30, s24_35, s24_35b, Int.toNat_natCast, Int.toNat_natCast, Nat.reduceAdd, Nat.reduceMul, Int.reduceToNat, Int.reduceAdd, Int.reduceLT, Int.reduceLE, Int.reduceEq, Int.reduceNeg, Int.reduceMul, Int.reduceSub, Nat.reduceSub, reduceIte, ite_true, ite_false, and_true, true_and, and_self, h1, c0', m24_32 h30]
        exact this
      · have h30 := sp30_f (d := d) (N := N) (L := L) (B := B) (by omega) h (by decide) hpn c1
        have e : updL (nxG G n) n (k + 1) c st p = (false, p, st) := by
          unfold updL
          rw [if_pos ⟨c0, c1⟩]
        rw [e]
        simp (disch := omega) only [s24_19, s24_20, s24_22, s24_25, s24_26, s24_29, s24_30, s24_35, s24_35b, s24_38, s24_42, s24_42b, s24_45, s24_46, s24_46b, Int.toNat_natCast, Int.toNat_natCast, Nat.reduceAdd, Nat.reduceMul, Int.reduceToNat, Int.reduceAdd, Int.reduceLT, Int.reduceLE, Int.reduceEq, Int.reduceNeg, Int.reduceMul, Int.reduceSub, Nat.reduceSub, reduceIte, ite_true, ite_false, and_true, true_and, and_self, h1, c0', m24_32 h30]
        refine ⟨B, rfl, rfl, fun e => absurd e Bool.false_ne_true, upw_sho hw, hfr⟩
    · have c0' : ¬ 0 < (c : Int) := by omega
      have := key p hpn (Nat.le_refl _) (by
        rw [show updL (nxG G n) n (k + 1) c st p = if 0 < c ∧ ¬ nxG G n p = 59 then (false, p, st) else if (clzS (nxG G n) st (if 0 < c then p + 1 else p)).1 = true then (if (clzS (nxG G n) st (if 0 < c then p + 1 else p)).2.1 = n then (true, n, (clzS (nxG G n) st (if 0 < c then p + 1 else p)).2.2) else updL (nxG G n) n k (c + 1) (clzS (nxG G n) st (if 0 < c then p + 1 else p)).2.2 (clzS (nxG G n) st (if 0 < c then p + 1 else p)).2.1) else (false, (clzS (nxG G n) st (if 0 < c then p + 1 else p)).2.1, (clzS (nxG G n) st (if 0 < c then p + 1 else p)).2.2) from rfl]
        rw [if_neg (fun hh => c0 hh.1), if_neg c0])
      simp (disch := omega) only [s24_19, s24_20, s24_22, s24_25, s24_26, Int.toNat_natCast, Int.toNat_natCast, Nat.reduceAdd, Nat.reduceMul, Int.reduceToNat, Int.reduceAdd, Int.reduceLT, Int.reduceLE, Int.reduceEq, Int.reduceNeg, Int.reduceMul, Int.reduceSub, Nat.reduceSub, reduceIte, ite_true, ite_false, and_true, true_and, and_self, h1, c0']
      exact this
theorem nxG_u {G : q_Gi} {n a k : Nat} {z : Int} (h : a ≠ 57) : nxG (ug G a k z) n = nxG G n := by
  funext p
  unfold nxG
  rw [ug_ne (Ne.symm h)]
theorem sp46 {d u N L : Nat} {B : q_Bv} {G : q_Gi} (hd : 1 ≤ d) (hu : uar u N) (h : sho B u) : ∃ B', Sp d 46 [.ref u] (hp N L B G) none (hp N L B' G) ∧ upw B' u (9, 0, []) ∧ frU B B' u := by
  obtain ⟨u1, u2, u3, u4, u5, u6, u7⟩ := id hu
  refine ⟨up (up (up (up B u 0 (vI 9)) u 1 (vI 0)) u 2 (vI 0)) u 5 (vI 0), ?_, ⟨?_, ?_, ?_, ?_, ?_, ⟨?_, ?_, ?_⟩, ?_⟩, ?_⟩
  · refine e46 (by omega) ?_
    simp (disch := first | omega | assumption) only [s46_0, s46_1, m46_3, s46_6, s46_7, m46_8, s46_11, s46_12, m46_13, s46_16, s46_17, m46_18, s46_21, Int.toNat_natCast, Int.toNat_natCast, Nat.reduceAdd, Nat.reduceMul, Int.reduceToNat, Int.reduceAdd, Int.reduceLT, Int.reduceLE, Int.reduceEq, Int.reduceNeg, Int.reduceMul, Int.reduceSub, Nat.reduceSub, reduceIte, ite_true, ite_false, and_true, true_and, and_self]
  · rw [up_k (by omega), up_k (by omega), up_k (by omega), up_at]
  · rw [up_k (by omega), up_k (by omega), up_at]
  · rw [up_k (by omega), up_at]; rfl
  · rw [up_k (by omega), up_k (by omega), up_k (by omega), up_k (by omega)]; exact h.1
  · rw [up_k (by omega), up_k (by omega), up_k (by omega), up_k (by omega)]; exact h.2.1
  · rw [up_k (by omega), up_k (by omega), up_k (by omega), up_k (by omega)]; exact h.2.2
  · rw [up_at]; rfl
  · intro k hk; exact absurd hk (Nat.not_lt_zero k)
  · intro k hk; exact absurd hk (Nat.not_lt_zero k)
  · intro a x _ _ _; rw [up_ne x, up_ne x, up_ne x, up_ne x]
theorem sp24 {d u n N L : Nat} {B : q_Bv} {G : q_Gi} (hd : 28 ≤ d) (h : rdr G n) (hu : uar u N) (hs : sho B u) : ∃ B', Sp d 24 [.ref 56, .ref u] (hp N L B G) (some (vI (bI ((updS (nxG G n) n).1 = true)))) (hp N L B' (ug (ug G 56 3 u) 56 2 ((updS (nxG G n) n).2.1 : Nat))) ∧ okC B B' u (updS (nxG G n) n) := by
  obtain ⟨u1, u2, u3, u4, u5, u6, u7⟩ := id hu
  have h' : rdr (ug G 56 3 u) n := ⟨by rw [ug_k (by omega)]; exact h.1, h.2.1, by rw [ug_ne (by omega)]; exact h.2.2⟩
  obtain ⟨B1, s1, t1, f1⟩ := sp46 (d := d - 1) (L := L) (G := ug G 56 3 u) (by omega) hu hs
  obtain ⟨r1, X1, hS, B', hr, hX, q⟩ := E24 (d := d) (X := hp N L B G) (a1 := u) (Q := fun r1 X1 => ∃ B', r1 = some (vI (bI ((updS (nxG G n) n).1 = true))) ∧ X1 = hp N L B' (ug (ug G 56 3 u) 56 2 ((updS (nxG G n) n).2.1 : Nat)) ∧ okC B B' u (updS (nxG G n) n)) (by omega) (by
    have := lp24 (d := d - 1) (L := L) (by omega) h' hu (ug_at) 10 0 (9, 0, []) 0 B B1 rfl (by omega) t1 (Nat.le_refl _) (Nat.le_refl _) f1
    rw [nxG_u (by omega)] at this
    simp (disch := omega) only [s24_0, s24_1, m24_2, s24_5, m24_6, s24_12, s24_13, m24_14, s24_17, s24_18, Int.toNat_natCast, Int.toNat_natCast, Nat.reduceAdd, Nat.reduceMul, Int.reduceToNat, Int.reduceAdd, Int.reduceLT, Int.reduceLE, Int.reduceEq, Int.reduceNeg, Int.reduceMul, Int.reduceSub, Nat.reduceSub, reduceIte, ite_true, ite_false, and_true, true_and, and_self, ug_at, nz_u, m24_9 u1 (by omega) s1]
    exact this)
  exact ⟨B', by rw [hr, hX] at hS; exact hS, q⟩
/-- what has been read well, as an upland -/
def stOK (st : Int × Int × List (Int × List Int)) : Prop := (0 ≤ st.1 ∧ st.1 ≤ 99) ∧ (0 ≤ st.2.1 ∧ st.2.1 ≤ 99) ∧ ∀ c, c ∈ st.2.2 → (-99 ≤ c.1 ∧ c.1 ≤ 99) ∧ okS c.2 0
theorem lik_ok {nx : Nat → Int} {n p : Nat} {w : List Int} {sg : Int → Int} {st : Int × Int × List (Int × List Int)} (h : txt nx n) (hw : ∀ c, c ∈ w → 0 ≤ c) (hsg : ∀ z, 0 ≤ z ∧ z ≤ 99 → -99 ≤ sg z ∧ sg z ≤ 99) (hp : p ≤ n) (hs : stOK st) (hr : (likS nx st w sg p).1 = true) : stOK (likS nx st w sg p).2.2 := by
  have gO := nb_g h w p hw hp
  unfold likS at hr ⊢
  by_cases c1 : (nbS nx w p).1 < 0
  · rw [if_pos c1] at hr; exact absurd hr Bool.false_ne_true
  rw [if_neg c1] at hr ⊢
  by_cases c2 : nx (nbS nx w p).2 = 32
  · rw [if_pos c2] at hr ⊢
    by_cases c3 : (eitS nx (oneS nx 4) ((nbS nx w p).2 + 1)).1 = true
    · rw [if_pos c3]
      refine ⟨hs.1, hs.2.1, fun c hc => ?_⟩
      rcases List.mem_append.mp hc with hc | hc
      · exact hs.2.2 c hc
      · rw [List.mem_singleton] at hc
        rw [hc]
        refine ⟨hsg _ (by omega), ?_⟩
        have := eit_ok (one_ok h 4 12 rfl) ((nbS nx w p).2 + 1) 0 [] c3 (by decide) rfl
        rw [List.append_nil] at this
        exact this
    · rw [if_neg c3] at hr; exact absurd hr Bool.false_ne_true
  · rw [if_neg c2] at hr; exact absurd hr Bool.false_ne_true
theorem clz_ok {nx : Nat → Int} {n p : Nat} {st : Int × Int × List (Int × List Int)} (h : txt nx n) (hp : p ≤ n) (hs : stOK st) (hr : (clzS nx st p).1 = true) : stOK (clzS nx st p).2.2 := by
  have gT := nb_g h wdT p wdT_c hp
  have gG := nb_g h wdG p wdG_c hp
  unfold clzS at hr ⊢
  by_cases c1 : nx p = 116
  · rw [if_pos c1] at hr ⊢
    have : 0 ≤ (nbS nx wdT p).1 := of_decide_eq_true hr
    exact ⟨⟨this, gT.2.2.2⟩, hs.2⟩
  rw [if_neg c1] at hr ⊢
  by_cases c2 : nx p = 103
  · rw [if_pos c2] at hr ⊢
    have : 0 ≤ (nbS nx wdG p).1 := of_decide_eq_true hr
    exact ⟨hs.1, ⟨this, gG.2.2.2⟩, hs.2.2⟩
  rw [if_neg c2] at hr ⊢
  by_cases c3 : nx (p + 1) = 111
  · rw [if_pos c3] at hr ⊢
    exact lik_ok h wdO_c (fun z hz => by unfold sgO; omega) hp hs hr
  · rw [if_neg c3] at hr ⊢
    exact lik_ok h wdI_c (fun z hz => by unfold sgI; omega) hp hs hr
theorem upd_ok {nx : Nat → Int} {n : Nat} (h : txt nx n) : ∀ (k c : Nat) (st : Int × Int × List (Int × List Int)) (p : Nat), p ≤ n → stOK st → st.2.2.length ≤ c → (flat st.2.2).length ≤ p → c + k = 10 → (updL nx n k c st p).1 = true → stOK (updL nx n k c st p).2.2 ∧ (updL nx n k c st p).2.2.2.2.length ≤ 10 ∧ (flat (updL nx n k c st p).2.2.2.2).length ≤ n ∧ (updL nx n k c st p).2.1 = n := by
  intro k
  induction k with
  | zero => intro c st p hp hs hc hf hck hr; exact absurd hr Bool.false_ne_true
  | succ k ih =>
    intro c st p hp hs hc hf hck hr
    have key : ∀ q, q ≤ n → p ≤ q → (updL nx n (k + 1) c st p = if (clzS nx st q).1 = true then (if (clzS nx st q).2.1 = n then (true, n, (clzS nx st q).2.2) else updL nx n k (c + 1) (clzS nx st q).2.2 (clzS nx st q).2.1) else (false, (clzS nx st q).2.1, (clzS nx st q).2.2)) → stOK (updL nx n (k + 1) c st p).2.2 ∧ (updL nx n (k + 1) c st p).2.2.2.2.length ≤ 10 ∧ (flat (updL nx n (k + 1) c st p).2.2.2.2).length ≤ n ∧ (updL nx n (k + 1) c st p).2.1 = n := by
      intro q hq hpq e
      obtain ⟨g1, g2, g3⟩ := clz_g (st := st) h hq
      have gn := @clz_n nx q st
      rw [e] at hr ⊢
      by_cases c1 : (clzS nx st q).1 = true
      · rw [if_pos c1] at hr ⊢
        have ok := clz_ok h hq hs c1
        by_cases c2 : (clzS nx st q).2.1 = n
        · rw [if_pos c2]
          exact ⟨ok, by simp only []; omega, by have := g3 (by omega); simp only []; omega, rfl⟩
        · rw [if_neg c2] at hr ⊢
          exact ih (c + 1) _ _ g2 ok (by omega) (g3 (by omega)) (by omega) hr
      · rw [if_neg c1] at hr; exact absurd hr Bool.false_ne_true
    have e0 : updL nx n (k + 1) c st p = if 0 < c ∧ ¬ nx p = 59 then (false, p, st) else if (clzS nx st (if 0 < c then p + 1 else p)).1 = true then (if (clzS nx st (if 0 < c then p + 1 else p)).2.1 = n then (true, n, (clzS nx st (if 0 < c then p + 1 else p)).2.2) else updL nx n k (c + 1) (clzS nx st (if 0 < c then p + 1 else p)).2.2 (clzS nx st (if 0 < c then p + 1 else p)).2.1) else (false, (clzS nx st (if 0 < c then p + 1 else p)).2.1, (clzS nx st (if 0 < c then p + 1 else p)).2.2) := rfl
    by_cases c0 : 0 < c
    · by_cases c1 : nx p = 59
      · have l := txt_lt h (by decide) c1
        exact key (p + 1) (by omega) (by omega) (by rw [e0, if_neg (fun hh => hh.2 c1), if_pos c0])
      · rw [e0, if_pos ⟨c0, c1⟩] at hr; exact absurd hr Bool.false_ne_true
    · exact key p hp (Nat.le_refl _) (by rw [e0, if_neg (fun hh => c0 hh.1), if_neg c0])
theorem upd_r {nx : Nat → Int} {n : Nat} (h : txt nx n) : ∀ (k c : Nat) (st : Int × Int × List (Int × List Int)) (p : Nat), p ≤ n → (updL nx n k c st p).2.1 ≤ n := by
  intro k
  induction k with
  | zero => intro c st p hp; exact hp
  | succ k ih =>
    intro c st p hp
    have e0 : updL nx n (k + 1) c st p = if 0 < c ∧ ¬ nx p = 59 then (false, p, st) else if (clzS nx st (if 0 < c then p + 1 else p)).1 = true then (if (clzS nx st (if 0 < c then p + 1 else p)).2.1 = n then (true, n, (clzS nx st (if 0 < c then p + 1 else p)).2.2) else updL nx n k (c + 1) (clzS nx st (if 0 < c then p + 1 else p)).2.2 (clzS nx st (if 0 < c then p + 1 else p)).2.1) else (false, (clzS nx st (if 0 < c then p + 1 else p)).2.1, (clzS nx st (if 0 < c then p + 1 else p)).2.2) := rfl
    have key : ∀ q, q ≤ n → (if (clzS nx st q).1 = true then (if (clzS nx st q).2.1 = n then (true, n, (clzS nx st q).2.2) else updL nx n k (c + 1) (clzS nx st q).2.2 (clzS nx st q).2.1) else (false, (clzS nx st q).2.1, (clzS nx st q).2.2)).2.1 ≤ n := by
      intro q hq
      obtain ⟨g1, g2, g3⟩ := clz_g (st := st) h hq
      by_cases c1 : (clzS nx st q).1 = true
      · rw [if_pos c1]
        by_cases c2 : (clzS nx st q).2.1 = n
        · rw [if_pos c2]; exact Nat.le_refl _
        · rw [if_neg c2]; exact ih _ _ _ g2
      · rw [if_neg c1]; exact g2
    rw [e0]
    by_cases c0 : 0 < c
    · by_cases c1 : nx p = 59
      · have l := txt_lt h (by decide) c1
        rw [if_neg (fun hh => hh.2 c1), if_pos c0]; exact key _ (by omega)
      · rw [if_pos ⟨c0, c1⟩]; exact hp
    · rw [if_neg (fun hh => c0 hh.1), if_neg c0]; exact key _ hp
theorem toks_flat : ∀ cl, toks cl = (flat cl).length
  | [] => rfl
  | (a, l) :: r => by
    have e : flat ((a, l) :: r) = l ++ flat r := by unfold flat; rw [List.flatMap_cons]
    rw [e, List.length_append, ← toks_flat r]; rfl
theorem Seg_of {f : Nat → Value} : ∀ (l : List Int) (p : Nat), (∀ k, k < l.length → f (p + k) = vI (l.getD k 0)) → Seg f p l
  | [], _, _ => trivial
  | x :: l, p, h => ⟨h 0 (by rw [List.length_cons]; omega), Seg_of l (p + 1) (fun k hk => by
      have := h (k + 1) (by rw [List.length_cons]; omega)
      rw [show p + (k + 1) = p + 1 + k by omega] at this
      exact this)⟩
theorem Cls_of {B : q_Bv} {u : Nat} {cl : List (Int × List Int)} (hs : ∀ k, k < (flat cl).length → B (u + 3) k = vI ((flat cl).getD k 0)) (ha : ∀ i, i < cl.length → B (u + 1) i = vI (cl.getD i (0, [])).1 ∧ B (u + 2) i = vI ((flat (cl.take (i + 1))).length : Int)) : ∀ (r pre : List (Int × List Int)), cl = pre ++ r → Cls B u pre.length (flat pre).length r
  | [], _, _ => trivial
  | (a, l) :: r, pre, h => by
    have e1 : cl.getD pre.length (0, []) = (a, l) := by
      rw [h, List.getD_eq_getElem?_getD, List.getElem?_append_right (Nat.le_refl _), Nat.sub_self]; rfl
    have e2 : cl.take (pre.length + 1) = pre ++ [(a, l)] := by
      rw [h, List.take_append, List.take_of_length_le (by omega), Nat.add_sub_cancel_left]; rfl
    have e3 : flat cl = flat pre ++ (l ++ flat r) := by rw [h]; unfold flat; rw [List.flatMap_append, List.flatMap_cons]
    have hlen : pre.length < cl.length := by rw [h, List.length_append, List.length_cons]; omega
    have h1 := ha pre.length hlen
    rw [e1, e2, flat_app, List.length_append] at h1
    have ih := Cls_of hs ha r (pre ++ [(a, l)]) (by rw [h, List.append_assoc]; rfl)
    rw [List.length_append, flat_app, List.length_append] at ih
    refine ⟨h1.1, h1.2, ?_, ih⟩
    refine Seg_of l _ (fun k hk => ?_)
    rw [hs _ (by rw [e3, List.length_append, List.length_append]; omega), e3, List.getD_eq_getElem?_getD, List.getD_eq_getElem?_getD, List.getElem?_append_right (by omega), Nat.add_sub_cancel_left, List.getElem?_append_left hk]
theorem upl_of {B : q_Bv} {N u : Nat} {st : Int × Int × List (Int × List Int)} (hu : uar u N) (h : upw B u st) (hs : stOK st) (h10 : st.2.2.length ≤ 10) (h100 : (flat st.2.2).length ≤ 100) : upl B N u st.1 st.2.1 st.2.2 := by
  obtain ⟨u1, u2, u3, u4, u5, u6, u7⟩ := hu
  obtain ⟨h0, h1, h2, h3, h4, ⟨h6, h5, hst⟩, ha⟩ := h
  have hm : mem [78, 129, 133, 137, 141, 145, 149] u = true := by
    have := mem_of u1
    unfold mem
    rw [List.any_eq_true]
    exact ⟨u, List.mem_cons_of_mem _ this, by simp⟩
  exact ⟨hm, u5, h0, h1, h2, h3, h4, h6, Cls_of hst ha st.2.2 [] rfl, hs.1, hs.2.1, h10, by rw [toks_flat]; exact h100, hs.2.2⟩
