/-! what the calls keep -/
theorem it_r {p : Prop} [Decidable p] {x y lo hi : Int} (h1 : p → lo ≤ x ∧ x ≤ hi) (h2 : lo ≤ y ∧ y ≤ hi) : lo ≤ (if p then x else y) ∧ (if p then x else y) ≤ hi := by
  by_cases c : p
  · rw [if_pos c]; exact h1 c
  · rw [if_neg c]; exact h2
def okH (H : q_Gi) : Prop := Hok H ∧ H 0 1 ≤ 9999 ∧ H 0 2 ≤ 99999 ∧ zr H
theorem setS_ok {H : q_Gi} {a k : Nat} {z : Int} (ho : okH H) (h : (a = 0 ∧ k = 2 ∧ 0 ≤ z ∧ z ≤ 99999) ∨ (a = 3 ∧ 0 ≤ z ∧ z ≤ 99) ∨ (a = 4 ∧ (k : Int) < 4 * H 0 0 ∧ 0 ≤ z ∧ z ≤ 9) ∨ (a = 5 ∧ 0 ≤ z ∧ z ≤ 99)) : okH (setS H a k z) := by
  obtain ⟨⟨h0, h1, h2, h3, h4, h5, h6, h7⟩, d, e, r⟩ := ho
  refine ⟨⟨it_r (fun c => by omega) h0, fun b hb => it_r (fun c => by omega) (h1 b hb), fun b hb => it_r (fun c => by omega) (h2 b hb), fun b hb => it_r (fun c => by omega) (h3 b hb), fun b hb => it_r (fun c => by omega) (h4 b hb), fun b hb => it_r (fun c => by omega) (h5 b hb), it_r (fun c => by omega) h6, it_r (fun c => by omega) h7⟩, ?_, ?_, ?_⟩
  · exact (it_r (lo := 0) (hi := 9999) (fun c => by omega) (by omega)).2
  · exact (it_r (lo := 0) (hi := 99999) (fun c => by omega) (by omega)).2
  · intro j hj hj2
    have e0 : setS H a k z 0 0 = H 0 0 := if_neg (by omega)
    rw [e0] at hj
    show (if 4 = a ∧ j = k then z else H 4 j) = 0
    rw [if_neg (by omega)]
    exact r j hj hj2
theorem x54_ok {H : q_Gi} {k v f : Int} (ho : okH H) : okH (x54 H k v f).2 := by
  unfold x54
  split
  · split
    · split
      · rename_i c1 c2 c3
        obtain ⟨⟨h0, h1, h2, h3, h4, h5, h6, h7⟩, d, e, r⟩ := ho
        show okH (addS k v f H)
        refine ⟨⟨?_, fun b hb => ?_, fun b hb => ?_, fun b hb => ?_, fun b hb => ?_, fun b hb => ?_, ?_, ?_⟩, ?_, ?_, ?_⟩
        · unfold addS; exact it_r (fun c => by omega) (it_r (fun c => by omega) (it_r (fun c => by omega) (it_r (fun c => by omega) h0)))
        · unfold addS; exact it_r (fun c => by omega) (it_r (fun c => by omega) (it_r (fun c => by omega) (it_r (fun c => by omega) (h1 b hb))))
        · unfold addS; exact it_r (fun c => by omega) (it_r (fun c => by omega) (it_r (fun c => by omega) (it_r (fun c => by omega) (h2 b hb))))
        · unfold addS; exact it_r (fun c => by omega) (it_r (fun c => by omega) (it_r (fun c => by omega) (it_r (fun c => by omega) (h3 b hb))))
        · unfold addS; exact it_r (fun c => by omega) (it_r (fun c => by omega) (it_r (fun c => by omega) (it_r (fun c => by omega) (h4 b hb))))
        · unfold addS; exact it_r (fun c => by omega) (it_r (fun c => by omega) (it_r (fun c => by omega) (it_r (fun c => by omega) (h5 b hb))))
        · unfold addS; exact it_r (fun c => by omega) (it_r (fun c => by omega) (it_r (fun c => by omega) (it_r (fun c => by omega) h6)))
        · unfold addS; exact it_r (fun c => by omega) (it_r (fun c => by omega) (it_r (fun c => by omega) (it_r (fun c => by omega) h7)))
        · exact d
        · exact e
        · intro j hj hj2
          have e0 : addS k v f H 0 0 = H 0 0 + 1 := rfl
          rw [e0] at hj
          exact r j (by omega) hj2
      · exact ho
    · exact ho
  · exact ho
theorem x56_ok {H : q_Gi} {b n : Int} (ho : okH H) : okH (x56 H b n).2 := by
  unfold x56
  split
  · split
    · exact setS_ok ho (Or.inr (Or.inl ⟨rfl, by omega, by omega⟩))
    · exact ho
  · exact ho
theorem x57_ok {H : q_Gi} {b n : Int} (ho : okH H) : okH (x57 H b n).2 := by
  unfold x57
  split
  · split
    · exact setS_ok ho (Or.inr (Or.inr (Or.inr ⟨rfl, by omega, by omega⟩)))
    · exact ho
  · exact ho
theorem x58_ok {H : q_Gi} {b p n : Int} (ho : okH H) : okH (x58 H b p n).2 := by
  unfold x58
  split
  · split
    · split
      · exact setS_ok ho (Or.inr (Or.inr (Or.inl ⟨rfl, by omega, by omega, by omega⟩)))
      · exact ho
    · exact ho
  · exact ho
theorem x62_ok {H : q_Gi} {cl : List (Int × List Int)} {b e : Int} (hc : clOK cl) (ho : okH H) : okH (x62 cl H b e).2 := by
  unfold x62
  split
  · split
    · exact ho
    · rename_i c1 c2
      have h0 := ho.1.1
      have h5 := ho.1.2.2.2.2.2.1 e.toNat (by omega)
      have h7 := ho.1.2.2.2.2.2.2.2
      have hk := eatS_k (cl := cl) (b := b.toNat) (e := e.toNat) hc ho.1 (by omega) (by omega) (by omega) (by have := ho.2.2.1; omega)
      have r := ho.2.2.2
      obtain ⟨k0, k1, k2, k3, k4, k5, k6, k7⟩ := hk
      refine ⟨⟨k0, k1, k2, k3, k4, k5, k6, ?_⟩, ho.2.1, ?_, fun j hj hj2 => r j hj hj2⟩
      · show 0 ≤ min (H 0 2 + 1) 99999 ∧ min (H 0 2 + 1) 99999 ≤ 200000
        omega
      · show min (H 0 2 + 1) 99999 ≤ 99999
        omega
  · exact ho
theorem daysS_x (g : Int) : ∀ (n : Nat) (H : q_Gi), daysS g n H 0 2 = H 0 2 ∧ daysS g n H 4 = H 4 := by
  intro n
  induction n with
  | zero => intro H; exact ⟨rfl, rfl⟩
  | succ n ih =>
    intro H
    obtain ⟨i1, i2⟩ := ih (dayS g H)
    exact ⟨i1, i2⟩
theorem x63_ok {H : q_Gi} {g n : Int} (hg : 0 ≤ g ∧ g ≤ 99) (ho : okH H) : okH (x63 g H n).2 := by
  unfold x63
  split
  · split
    · rename_i c1 c2
      have hk := daysS_ok hg n.toNat H ho.1 (by omega)
      obtain ⟨d1, d2⟩ := daysS_x g n.toNat H
      refine ⟨hk, ?_, ?_, ?_⟩
      · show daysS g n.toNat H 0 1 ≤ 9999
        rw [daysS_day]; omega
      · show daysS g n.toNat H 0 2 ≤ 99999
        rw [d1]; exact ho.2.2.1
      · intro j hj hj2
        show daysS g n.toNat H 4 j = 0
        rw [d2]
        exact ho.2.2.2 j (by rw [show (H 0 1 + n, daysS g n.toNat H).2 = daysS g n.toNat H from rfl, daysS_cnt] at hj; exact hj) hj2
    · exact ho
  · exact ho
theorem x64_ok {H : q_Gi} {t b : Int} (ho : okH H) : okH (x64 t H b).2 := by
  unfold x64
  split
  · exact ⟨strokeS_ok ho.1, ho.2.1, ho.2.2.1, ho.2.2.2⟩
  · exact ho
theorem addP0_ok {P : q_Gi} {b x y : Int} (ho : Pok P) (hl : P 0 0 < 10) (hb : 0 ≤ b ∧ b ≤ 5) (hx : 0 ≤ x ∧ x ≤ 99) (hy : 0 ≤ y ∧ y ≤ 30) : Pok (addP0 P b x y) := by
  obtain ⟨h0, h1, h2, h3, h4, h5, h6, h7, h8, h9, ha, hb', hc⟩ := ho
  have e7 : ∀ k, addP0 P b x y 7 k = P 7 k := fun k => by
    unfold addP0 setS
    rw [if_neg (by omega), if_neg (by omega), if_neg (by omega), if_neg (by omega)]
  have e8 : ∀ k, addP0 P b x y 8 k = P 8 k := fun k => by
    unfold addP0 setS
    rw [if_neg (by omega), if_neg (by omega), if_neg (by omega), if_neg (by omega)]
  refine ⟨?_, ?_, ?_, ?_, fun k hk => ?_, fun k hk => ?_, fun k hk => ?_, fun k hk => ?_, fun k hk => by rw [e7]; exact h8 k hk, fun k hk => by rw [e7, e8]; exact h9 k hk, fun k hk => ?_, fun k hk => ?_, fun k hk => by rw [e8]; exact hc k hk⟩
  · unfold addP0 setS; exact it_r (fun c => by omega) (it_r (fun c => by omega) (it_r (fun c => by omega) (it_r (fun c => by omega) h0)))
  · unfold addP0 setS; exact it_r (fun c => by omega) (it_r (fun c => by omega) (it_r (fun c => by omega) (it_r (fun c => by omega) h1)))
  · unfold addP0 setS; exact it_r (fun c => by omega) (it_r (fun c => by omega) (it_r (fun c => by omega) (it_r (fun c => by omega) h2)))
  · unfold addP0 setS; exact it_r (fun c => by omega) (it_r (fun c => by omega) (it_r (fun c => by omega) (it_r (fun c => by omega) h3)))
  · unfold addP0 setS; exact it_r (fun c => by omega) (it_r (fun c => by omega) (it_r (fun c => by omega) (it_r (fun c => by omega) (h4 k hk))))
  · unfold addP0 setS; exact it_r (fun c => by omega) (it_r (fun c => by omega) (it_r (fun c => by omega) (it_r (fun c => by omega) (h5 k hk))))
  · unfold addP0 setS; exact it_r (fun c => by omega) (it_r (fun c => by omega) (it_r (fun c => by omega) (it_r (fun c => by omega) (h6 k hk))))
  · unfold addP0 setS; exact it_r (fun c => by omega) (it_r (fun c => by omega) (it_r (fun c => by omega) (it_r (fun c => by omega) (h7 k hk))))
  · unfold addP0 setS; exact it_r (fun c => by omega) (it_r (fun c => by omega) (it_r (fun c => by omega) (it_r (fun c => by omega) (ha k hk))))
  · unfold addP0 setS; exact it_r (fun c => by omega) (it_r (fun c => by omega) (it_r (fun c => by omega) (it_r (fun c => by omega) (hb' k hk))))
theorem addP1_ok {P : q_Gi} {b x y : Int} (ho : Pok P) (hl : P 0 1 < 5) (hb : 0 ≤ b ∧ b ≤ 5) (hx : 0 ≤ x ∧ x ≤ 99) (hy : 0 ≤ y ∧ y ≤ 30) : Pok (addP1 P b x y) := by
  obtain ⟨h0, h1, h2, h3, h4, h5, h6, h7, h8, h9, ha, hb', hc⟩ := ho
  have e7 : ∀ k, addP1 P b x y 7 k = P 7 k := fun k => by
    unfold addP1 setS
    rw [if_neg (by omega), if_neg (by omega), if_neg (by omega), if_neg (by omega)]
  have e8 : ∀ k, addP1 P b x y 8 k = P 8 k := fun k => by
    unfold addP1 setS
    rw [if_neg (by omega), if_neg (by omega), if_neg (by omega), if_neg (by omega)]
  refine ⟨?_, ?_, ?_, ?_, fun k hk => ?_, fun k hk => ?_, fun k hk => ?_, fun k hk => ?_, fun k hk => by rw [e7]; exact h8 k hk, fun k hk => by rw [e7, e8]; exact h9 k hk, fun k hk => ?_, fun k hk => ?_, fun k hk => by rw [e8]; exact hc k hk⟩
  · unfold addP1 setS; exact it_r (fun c => by omega) (it_r (fun c => by omega) (it_r (fun c => by omega) (it_r (fun c => by omega) h0)))
  · unfold addP1 setS; exact it_r (fun c => by omega) (it_r (fun c => by omega) (it_r (fun c => by omega) (it_r (fun c => by omega) h1)))
  · unfold addP1 setS; exact it_r (fun c => by omega) (it_r (fun c => by omega) (it_r (fun c => by omega) (it_r (fun c => by omega) h2)))
  · unfold addP1 setS; exact it_r (fun c => by omega) (it_r (fun c => by omega) (it_r (fun c => by omega) (it_r (fun c => by omega) h3)))
  · unfold addP1 setS; exact it_r (fun c => by omega) (it_r (fun c => by omega) (it_r (fun c => by omega) (it_r (fun c => by omega) (h4 k hk))))
  · unfold addP1 setS; exact it_r (fun c => by omega) (it_r (fun c => by omega) (it_r (fun c => by omega) (it_r (fun c => by omega) (h5 k hk))))
  · unfold addP1 setS; exact it_r (fun c => by omega) (it_r (fun c => by omega) (it_r (fun c => by omega) (it_r (fun c => by omega) (h6 k hk))))
  · unfold addP1 setS; exact it_r (fun c => by omega) (it_r (fun c => by omega) (it_r (fun c => by omega) (it_r (fun c => by omega) (h7 k hk))))
  · unfold addP1 setS; exact it_r (fun c => by omega) (it_r (fun c => by omega) (it_r (fun c => by omega) (it_r (fun c => by omega) (ha k hk))))
  · unfold addP1 setS; exact it_r (fun c => by omega) (it_r (fun c => by omega) (it_r (fun c => by omega) (it_r (fun c => by omega) (hb' k hk))))
theorem addP3_ok {P : q_Gi} {b x y : Int} (ho : Pok P) (hl : P 0 3 < 8) (hb : 0 ≤ b ∧ b ≤ 5) (hx : 0 ≤ x ∧ x ≤ 99) (hy : 0 ≤ y ∧ y ≤ 30) : Pok (addP3 P b x y) := by
  obtain ⟨h0, h1, h2, h3, h4, h5, h6, h7, h8, h9, ha, hb', hc⟩ := ho
  have e7 : ∀ k, addP3 P b x y 7 k = P 7 k := fun k => by
    unfold addP3 setS
    rw [if_neg (by omega), if_neg (by omega), if_neg (by omega), if_neg (by omega)]
  have e8 : ∀ k, addP3 P b x y 8 k = P 8 k := fun k => by
    unfold addP3 setS
    rw [if_neg (by omega), if_neg (by omega), if_neg (by omega), if_neg (by omega)]
  refine ⟨?_, ?_, ?_, ?_, fun k hk => ?_, fun k hk => ?_, fun k hk => ?_, fun k hk => ?_, fun k hk => by rw [e7]; exact h8 k hk, fun k hk => by rw [e7, e8]; exact h9 k hk, fun k hk => ?_, fun k hk => ?_, fun k hk => by rw [e8]; exact hc k hk⟩
  · unfold addP3 setS; exact it_r (fun c => by omega) (it_r (fun c => by omega) (it_r (fun c => by omega) (it_r (fun c => by omega) h0)))
  · unfold addP3 setS; exact it_r (fun c => by omega) (it_r (fun c => by omega) (it_r (fun c => by omega) (it_r (fun c => by omega) h1)))
  · unfold addP3 setS; exact it_r (fun c => by omega) (it_r (fun c => by omega) (it_r (fun c => by omega) (it_r (fun c => by omega) h2)))
  · unfold addP3 setS; exact it_r (fun c => by omega) (it_r (fun c => by omega) (it_r (fun c => by omega) (it_r (fun c => by omega) h3)))
  · unfold addP3 setS; exact it_r (fun c => by omega) (it_r (fun c => by omega) (it_r (fun c => by omega) (it_r (fun c => by omega) (h4 k hk))))
  · unfold addP3 setS; exact it_r (fun c => by omega) (it_r (fun c => by omega) (it_r (fun c => by omega) (it_r (fun c => by omega) (h5 k hk))))
  · unfold addP3 setS; exact it_r (fun c => by omega) (it_r (fun c => by omega) (it_r (fun c => by omega) (it_r (fun c => by omega) (h6 k hk))))
  · unfold addP3 setS; exact it_r (fun c => by omega) (it_r (fun c => by omega) (it_r (fun c => by omega) (it_r (fun c => by omega) (h7 k hk))))
  · unfold addP3 setS; exact it_r (fun c => by omega) (it_r (fun c => by omega) (it_r (fun c => by omega) (it_r (fun c => by omega) (ha k hk))))
  · unfold addP3 setS; exact it_r (fun c => by omega) (it_r (fun c => by omega) (it_r (fun c => by omega) (it_r (fun c => by omega) (hb' k hk))))
theorem addP2_ok {P : q_Gi} {b x y : Int} (ho : Pok P) (hl : P 0 2 < 10) (hb : 0 ≤ b ∧ b ≤ 6) (hx : b = 6 ∨ 0 ≤ x ∧ x ≤ 3) (hx2 : -2147483648 ≤ x ∧ x ≤ 2147483647) : Pok (addP2 P b x y) := by
  obtain ⟨h0, h1, h2, h3, h4, h5, h6, h7, h8, h9, ha, hb', hc⟩ := ho
  have e7 : ∀ k, addP2 P b x y 7 k = if k = (P 0 2).toNat then b else P 7 k := fun k => by
    unfold addP2 setS
    rw [if_neg (by omega), if_neg (by omega), if_neg (by omega)]
    by_cases c : k = (P 0 2).toNat
    · rw [if_pos c, if_pos ⟨by omega, c⟩]
    · rw [if_neg c, if_neg (fun h => c h.2)]
  have e8 : ∀ k, addP2 P b x y 8 k = if k = (P 0 2).toNat then x else P 8 k := fun k => by
    unfold addP2 setS
    rw [if_neg (by omega), if_neg (by omega)]
    by_cases c : k = (P 0 2).toNat
    · rw [if_pos c, if_pos ⟨by omega, c⟩]
    · rw [if_neg c, if_neg (fun h => c h.2), if_neg (by omega)]
  refine ⟨?_, ?_, ?_, ?_, fun k hk => ?_, fun k hk => ?_, fun k hk => ?_, fun k hk => ?_, fun k hk => by rw [e7]; exact it_r (fun _ => hb) (h8 k hk), fun k hk => ?_, fun k hk => ?_, fun k hk => ?_, fun k hk => by rw [e8]; exact it_r (fun _ => hx2) (hc k hk)⟩
  · unfold addP2 setS; exact it_r (fun c => by omega) (it_r (fun c => by omega) (it_r (fun c => by omega) (it_r (fun c => by omega) h0)))
  · unfold addP2 setS; exact it_r (fun c => by omega) (it_r (fun c => by omega) (it_r (fun c => by omega) (it_r (fun c => by omega) h1)))
  · unfold addP2 setS; exact it_r (fun c => by omega) (it_r (fun c => by omega) (it_r (fun c => by omega) (it_r (fun c => by omega) h2)))
  · unfold addP2 setS; exact it_r (fun c => by omega) (it_r (fun c => by omega) (it_r (fun c => by omega) (it_r (fun c => by omega) h3)))
  · unfold addP2 setS; exact it_r (fun c => by omega) (it_r (fun c => by omega) (it_r (fun c => by omega) (it_r (fun c => by omega) (h4 k hk))))
  · unfold addP2 setS; exact it_r (fun c => by omega) (it_r (fun c => by omega) (it_r (fun c => by omega) (it_r (fun c => by omega) (h5 k hk))))
  · unfold addP2 setS; exact it_r (fun c => by omega) (it_r (fun c => by omega) (it_r (fun c => by omega) (it_r (fun c => by omega) (h6 k hk))))
  · unfold addP2 setS; exact it_r (fun c => by omega) (it_r (fun c => by omega) (it_r (fun c => by omega) (it_r (fun c => by omega) (h7 k hk))))
  · rw [e7, e8]
    by_cases c : k = (P 0 2).toNat
    · rw [if_pos c, if_pos c]; exact hx
    · rw [if_neg c, if_neg c]; exact h9 k hk
  · unfold addP2 setS; exact it_r (fun c => by omega) (it_r (fun c => by omega) (it_r (fun c => by omega) (it_r (fun c => by omega) (ha k hk))))
  · unfold addP2 setS; exact it_r (fun c => by omega) (it_r (fun c => by omega) (it_r (fun c => by omega) (it_r (fun c => by omega) (hb' k hk))))
theorem setP_ok {P : q_Gi} {j : Nat} (ho : Pok P) : Pok (setS P 0 j 0) := by
  obtain ⟨h0, h1, h2, h3, h4, h5, h6, h7, h8, h9, ha, hb', hc⟩ := ho
  exact ⟨it_r (fun c => by omega) h0, it_r (fun c => by omega) h1, it_r (fun c => by omega) h2, it_r (fun c => by omega) h3, h4, h5, h6, h7, h8, h9, ha, hb', hc⟩
theorem r72_ok {H P : q_Gi} {b : Int} (hh : H 0 0 ≤ 6) (ho : Pok P) : Pok (r72 H P b).2 := by
  unfold r72 xadd0
  split
  · exact setP_ok ho
  · split
    · split
      · exact addP0_ok ho (by omega) (by omega) (by omega) (by omega)
      · exact ho
    · exact ho
theorem r75_ok {H P : q_Gi} {b f n : Int} (hh : H 0 0 ≤ 6) (ho : Pok P) : Pok (r75 H P b f n).2 := by
  unfold r75 xadd1
  split
  · exact setP_ok ho
  · split
    · split
      · split
        · exact addP1_ok ho (by omega) (by omega) (by omega) (by omega)
        · exact ho
      · exact ho
    · exact ho
theorem r79_ok {H P : q_Gi} {b f : Int} (hh : H 0 0 ≤ 6) (hf : -2147483648 ≤ f ∧ f ≤ 2147483647) (ho : Pok P) : Pok (r79 H P b f).2 := by
  unfold r79 xadd2
  split
  · exact setP_ok ho
  · split
    · split
      · exact addP2_ok ho (by omega) (by omega) (by omega) hf
      · exact ho
    · split
      · split
        · exact addP2_ok ho (by omega) (by omega) (by omega) hf
        · exact ho
      · exact ho
theorem r81_ok {H P : q_Gi} {b f : Int} (hh : H 0 0 ≤ 6) (ho : Pok P) : Pok (r81 H P b f).2 := by
  unfold r81 xadd3
  split
  · exact setP_ok ho
  · split
    · split
      · split
        · exact addP3_ok ho (by omega) (by omega) (by omega) (by omega)
        · exact ho
      · exact ho
    · exact ho
theorem lr_0 : lr 0 := ⟨by decide, by decide⟩
theorem x90_ok {T : q_Gi} {z s n : Int} (ho : Tok T) : Tok (x90 T z s n).2 := by
  have hbec : ∀ (j : Nat) (s n : Int), (-1 ≤ s ∧ s ≤ 4) → (0 ≤ n ∧ n ≤ 60) → (s = -1 → n = 0) → Tok (becS T j s n) := by
    intro j s n h1 h2 h3 i hi
    obtain ⟨o1, o2, o3, o4, o5⟩ := ho i hi
    have e0 : becS T j s n 0 i = if i = j then s else T 0 i := by
      unfold becS
      by_cases c : i = j
      · rw [if_pos ⟨rfl, c⟩, if_pos c]
      · rw [if_neg (fun h => c h.2), if_neg (by omega), if_neg (by omega), if_neg c]
    have e1 : becS T j s n 1 i = if i = j then n else T 1 i := by
      unfold becS
      by_cases c : i = j
      · rw [if_neg (by omega), if_pos ⟨rfl, c⟩, if_pos c]
      · rw [if_neg (by omega), if_neg (fun h => c h.2), if_neg (by omega), if_neg c]
    have e2 : ∀ k, becS T j s n (2 + i) k = if i = j then 0 else T (2 + i) k := fun k => by
      unfold becS
      by_cases c : i = j
      · rw [if_neg (by omega), if_neg (by omega), if_pos (by omega), if_pos c]
      · rw [if_neg (by omega), if_neg (by omega), if_neg (by omega), if_neg c]
    rw [e0, e1]
    by_cases c : i = j
    · simp only [e2, if_pos c]
      exact ⟨h1, h2, h3, fun _ _ => lr_0, fun _ _ _ => Or.inl (by first | rfl | trivial)⟩
    · simp only [e2, if_neg c]
      exact ⟨o1, o2, o3, o4, o5⟩
  unfold x90
  split
  · split
    · exact hbec _ _ _ (by omega) (by omega) (fun _ => rfl)
    · split
      · split
        · exact ho
        · exact hbec _ _ _ (by omega) (by omega) (by omega)
      · exact ho
  · exact ho
theorem x91_ok {T : q_Gi} {z i v : Int} (hv : lr v) (ho : Tok T) : Tok (x91 T z i v).2 := by
  unfold x91
  split
  · split
    · exact ho
    · split
      · show Tok (itS T z.toNat i.toNat (nrS (T 0 z.toNat) v))
        intro j hj
        obtain ⟨o1, o2, o3, o4, o5⟩ := ho j hj
        have e0 : itS T z.toNat i.toNat (nrS (T 0 z.toNat) v) 0 j = T 0 j := if_neg (by omega)
        have e1 : itS T z.toNat i.toNat (nrS (T 0 z.toNat) v) 1 j = T 1 j := if_neg (by omega)
        have e2 : ∀ k, itS T z.toNat i.toNat (nrS (T 0 z.toNat) v) (2 + j) k = if j = z.toNat ∧ k = i.toNat then nrS (T 0 z.toNat) v else T (2 + j) k := fun k => by
          unfold itS
          by_cases c : j = z.toNat ∧ k = i.toNat
          · rw [if_pos c, if_pos (by omega)]
          · rw [if_neg c, if_neg (by omega)]
        rw [e0, e1]
        refine ⟨o1, o2, o3, fun k hk => ?_, fun h4 k hk => ?_⟩
        · rw [e2]
          split
          · exact nrS_r hv
          · exact o4 k hk
        · rw [e2]
          split
          · rename_i c
            rw [c.1] at h4
            rw [h4]
            show (if (4 : Int) = 0 then _ else _) = 0 ∨ _
            unfold nrS
            rw [if_neg (by decide), if_neg (by decide), if_neg (by decide), if_neg (by decide)]
            by_cases cv : v = 0
            · rw [if_pos cv]; exact Or.inl rfl
            · rw [if_neg cv]; exact Or.inr rfl
          · exact o5 h4 k hk
      · exact ho
  · exact ho
theorem x93_ok {T : q_Gi} {z i o k n : Int} (ho : Tok T) : Tok (x93 T z i o k n).2 := by
  unfold x93
  split
  · split
    · exact ho
    · split
      · split
        · rename_i c1 c2 c3 c4
          obtain ⟨p1, p2, p3, p4, p5⟩ := ho z.toNat (by omega)
          obtain ⟨w1, w2, w3, w4, w5⟩ := ho o.toNat (by omega)
          show Tok (shS T z.toNat i.toNat o.toNat k.toNat n.toNat)
          intro j hj
          obtain ⟨o1, o2, o3, o4, o5⟩ := ho j hj
          have e0 : shS T z.toNat i.toNat o.toNat k.toNat n.toNat 0 j = T 0 j := if_neg (by omega)
          have e1 : shS T z.toNat i.toNat o.toNat k.toNat n.toNat 1 j = T 1 j := if_neg (by omega)
          have e2 : ∀ m, shS T z.toNat i.toNat o.toNat k.toNat n.toNat (2 + j) m = if j = o.toNat ∧ k.toNat ≤ m ∧ m < k.toNat + n.toNat then T (2 + z.toNat) (i.toNat + (m - k.toNat)) else T (2 + j) m := fun m => by
            unfold shS
            by_cases c : j = o.toNat ∧ k.toNat ≤ m ∧ m < k.toNat + n.toNat
            · rw [if_pos c, if_pos (by omega)]
            · rw [if_neg c, if_neg (by omega)]
          rw [e0, e1]
          refine ⟨o1, o2, o3, fun m hm => ?_, fun h4 m hm => ?_⟩
          · rw [e2]
            split
            · exact p4 _ (by omega)
            · exact o4 m hm
          · rw [e2]
            split
            · rename_i c
              rw [c.1] at h4
              exact p5 (by rw [c3]; exact h4) _ (by omega)
            · exact o5 h4 m hm
        · exact ho
      · exact ho
  · exact ho
