/-! the model: ring -/
def b2B (S b c : Nat) : Bool := !(decide (S / 2 ^ b % 2 = 0)) || (decide ((S + 2 ^ b) / 2 ^ c % 2 = 0) == (decide (S / 2 ^ c % 2 = 0) && !(decide (c = b))))
theorem b2_ok : ∀ S : Nat, S < 64 → ∀ b : Nat, b < 6 → ∀ c : Nat, c < 6 → b2B S b c = true := by decide +kernel
theorem b2_iff {S b c : Nat} (hS : S < 64) (hb : b < 6) (hc : c < 6) (h0 : S / 2 ^ b % 2 = 0) : (S + 2 ^ b) / 2 ^ c % 2 = 0 ↔ S / 2 ^ c % 2 = 0 ∧ c ≠ b := by
  have := b2_ok S hS b hb c hc
  unfold b2B at this
  rw [decide_eq_true h0] at this
  simp only [Bool.not_true, Bool.false_or, beq_iff_eq] at this
  constructor
  · intro h
    rw [decide_eq_true h] at this
    have t := this.symm
    simp only [Bool.and_eq_true, Bool.not_eq_true', decide_eq_true_eq, decide_eq_false_iff_not] at t
    exact t
  · rintro ⟨h1, h2⟩
    rw [decide_eq_true h1, decide_eq_false h2] at this
    exact of_decide_eq_true this
theorem vl_iff {n : Nat} (hn : n < 7) : ∀ (l : List Nat) (S : Nat), S < 2 ^ n → (vl n S l = true ↔ (∀ b, b ∈ l → b < n ∧ S / 2 ^ b % 2 = 0) ∧ l.Nodup) := by
  have hpf := pc_full n hn
  intro l
  induction l with
  | nil => intro S _; exact ⟨fun _ => ⟨fun b hb => absurd hb List.not_mem_nil, List.nodup_nil⟩, fun _ => rfl⟩
  | cons b l ih =>
    intro S hS
    have e : vl n S (b :: l) = (decide (b < n) && decide (S / 2 ^ b % 2 = 0) && vl n (S + 2 ^ b) l) := rfl
    rw [e]
    by_cases c : b < n ∧ S / 2 ^ b % 2 = 0
    · have hbo := bit_ok n hn S (by omega) b (by omega) hS c.1 c.2
      rw [decide_eq_true c.1, decide_eq_true c.2, Bool.true_and, Bool.true_and, ih (S + 2 ^ b) hbo.1, List.nodup_cons]
      constructor
      · rintro ⟨h1, h2⟩
        refine ⟨fun x hx => ?_, fun hb => ?_, h2⟩
        · rcases List.mem_cons.mp hx with rfl | hx
          · exact c
          · have := h1 x hx
            exact ⟨this.1, ((b2_iff (by omega) (by omega) (by omega) c.2).mp this.2).1⟩
        · have := h1 b hb
          exact ((b2_iff (by omega) (by omega) (by omega) c.2).mp this.2).2 rfl
      · rintro ⟨h1, h2, h3⟩
        refine ⟨fun x hx => ?_, h3⟩
        have := h1 x (List.mem_cons_of_mem _ hx)
        refine ⟨this.1, (b2_iff (by omega) (by omega) (by omega) c.2).mpr ⟨this.2, fun e => h2 (by rw [← e]; exact hx)⟩⟩
    · constructor
      · intro h
        simp only [Bool.and_eq_true, decide_eq_true_eq] at h
        exact absurd h.1 c
      · rintro ⟨h1, _⟩
        exact absurd (h1 b List.mem_cons_self) c
theorem vl_rev {n : Nat} (hn : n < 7) (l : List Nat) : vl n 0 l.reverse = vl n 0 l := by
  have hpf := pc_full n hn
  rw [Bool.eq_iff_iff, vl_iff hn _ 0 hpf.2.2.2, vl_iff hn _ 0 hpf.2.2.2]
  have hnd : l.reverse.Nodup ↔ l.Nodup := by rw [List.Nodup, List.pairwise_reverse]; exact ⟨fun h => h.imp fun x => Ne.symm x, fun h => h.imp fun x => Ne.symm x⟩
  rw [hnd]
  constructor
  · rintro ⟨h1, h2⟩; exact ⟨fun b hb => h1 b (List.mem_reverse.mpr hb), h2⟩
  · rintro ⟨h1, h2⟩; exact ⟨fun b hb => h1 b (List.mem_reverse.mp hb), h2⟩
theorem r6_len : ∀ (k m : Nat), (r6 k m).length = k
  | 0, _ => rfl
  | k + 1, m => by show (r6 k (m / 6)).length + 1 = k + 1; rw [r6_len k]
theorem lp170 {d n N L : Nat} {nu : Int} {B : q_Bv} {G0 : q_Gi} {fin : List Nat} (hd : 1 ≤ d) (hn : n < 7) (h0 : G0 82 0 = (n : Int)) (hf : fin.length = n) {Q : Option Value → q_H → Prop} : ∀ (j rest S : Nat) (tl : List Nat) (G : q_Gi), j ≤ n → rest ≤ 100000 → S < 2 ^ n → fin = (r6 j rest).reverse ++ tl → (∀ k, j ≤ k → k < n → G 101 k = ((fin.getD k 0 : Nat) : Int)) → (∀ a, a ≠ 101 → G a = G0 a) → (∀ G' : q_Gi, (vl n S (r6 j rest) = true → ∀ k, k < n → G' 101 k = ((fin.getD k 0 : Nat) : Int)) → (∀ a, a ≠ 101 → G' a = G0 a) → Q (some (vI (bI (vl n S (r6 j rest) = true)))) (hp N L B G')) → WP d 170 12 [.ref 82, vI nu, vI rest, vI S, vI ((j : Int) - 1)] [] (hp N L B G) Q := by
  have hpf := pc_full n hn
  intro j
  induction j with
  | zero =>
    intro rest S tl G hj hr hS hfi hl hG hQ
    have := hQ G (fun _ k hk => hl k (by omega) hk) hG
    simp (disch := omega) only [s170_12, s170_14, s170_82, s170_83, s170_83b, Int.toNat_natCast, Int.toNat_natCast, Nat.reduceAdd, Nat.reduceMul, Int.reduceToNat, Int.reduceAdd, Int.reduceLT, Int.reduceLE, Int.reduceEq, Int.reduceNeg, Int.reduceMul, Int.reduceSub, Nat.reduceSub, reduceIte, ite_true, ite_false, and_true, true_and, and_self, show ((0 : Nat) : Int) - 1 = -1 from rfl]
    exact this
  | succ j ih =>
    intro rest S tl G hj hr hS hfi hl hG hQ
    have e1 : ((j + 1 : Nat) : Int) - 1 = (j : Int) := by omega
    have h1 : ¬ (j : Int) < 0 := by omega
    have c0 : G 82 0 = (n : Int) := by rw [hG 82 (by omega)]; exact h0
    have em : (rest : Int) % 6 = ((rest % 6 : Nat) : Int) := rfl
    have ed : (rest : Int) / 6 = ((rest / 6 : Nat) : Int) := rfl
    have hm := Nat.mod_lt rest (show 0 < 6 by decide)
    have hdv := Nat.div_le_self rest 6
    have er : r6 (j + 1) rest = (rest % 6) :: r6 j (rest / 6) := rfl
    rw [er] at hQ hfi
    have ev : vl n S ((rest % 6) :: r6 j (rest / 6)) = (decide (rest % 6 < n) && decide (S / 2 ^ (rest % 6) % 2 = 0) && vl n (S + 2 ^ (rest % 6)) (r6 j (rest / 6))) := rfl
    rw [ev] at hQ
    have hfi2 : fin = (r6 j (rest / 6)).reverse ++ ((rest % 6) :: tl) := by rw [hfi, List.reverse_cons, List.append_assoc]; rfl
    have hgj : fin.getD j 0 = rest % 6 := by
      rw [hfi2, List.getD_eq_getElem?_getD, List.getElem?_append_right (by rw [List.length_reverse, r6_len]; exact Nat.le_refl _), List.length_reverse, r6_len, Nat.sub_self]
      rfl
    have hl2 : ∀ k, j ≤ k → k < n → ug G 101 j ((rest % 6 : Nat) : Int) 101 k = ((fin.getD k 0 : Nat) : Int) := by
      intro k hk1 hk2
      by_cases e : k = j
      · rw [e, ug_at, hgj]
      · rw [ug_k e]; exact hl k (by omega) hk2
    have hG2 : ∀ a, a ≠ 101 → ug G 101 j ((rest % 6 : Nat) : Int) a = G0 a := fun a ha => by rw [ug_ne ha]; exact hG a ha
    have ih' := ih (rest / 6)
    generalize hq : rest % 6 = q at em hm hQ hfi2 hl2 hG2
    generalize rest / 6 = w at ed hdv hQ hfi2 ih'
    rw [e1]
    rw [s170_12]
    by_cases c1 : q < n
    · have c1' : (q : Int) < (n : Int) := by omega
      have h110 := sp110 (d := d) (S := S) (b := q) (X := hp N L B (ug G 101 j (q : Int))) hd (by omega) (by omega)
      by_cases c2 : S / 2 ^ q % 2 = 0
      · have hbo := bit_ok n hn S (by omega) q (by omega) hS c1 c2
        have es := bit_s (n := n) hn (by omega) hS (by omega) c1 c2
        rw [bI_f (by omega)] at h110
        rw [decide_eq_true c1, decide_eq_true c2, Bool.true_and, Bool.true_and] at hQ
        have := ih' (S + 2 ^ q) (q :: tl) (ug G 101 j (q : Int)) (by omega) (by omega) hbo.1 hfi2 hl2 hG2 hQ
        simp (disch := omega) only [s170_14, s170_17, m170_18, s170_21, s170_23, s170_24, s170_26, m170_27, s170_28, s170_29, s170_31, s170_32, s170_33, m170_34, s170_37, m170_39, s170_40, m170_41, s170_44, s170_47, s170_48, s170_49, m170_50, s170_53, m170_55, s170_59, s170_59b, s170_62, s170_63, s170_63b, s170_64, s170_65, s170_66, m170_67, s170_70, m170_72, s170_73, s170_74, s170_75, s170_76, s170_79, Int.toNat_natCast, Int.toNat_natCast, Nat.reduceAdd, Nat.reduceMul, Int.reduceToNat, Int.reduceAdd, Int.reduceLT, Int.reduceLE, Int.reduceEq, Int.reduceNeg, Int.reduceMul, Int.reduceSub, Nat.reduceSub, reduceIte, ite_true, ite_false, and_true, true_and, and_self, h1, em, ed, ug_at, ug_ne, c0, c1', m170_56 h110, es]
        exact this
      · rw [bI_t (by have := Nat.mod_lt (S / 2 ^ q) (show 0 < 2 by decide); omega)] at h110
        rw [decide_eq_false c2, Bool.and_false, Bool.false_and] at hQ
        have := hQ (ug G 101 j (q : Int)) (fun h => absurd h Bool.false_ne_true) hG2
        simp (disch := omega) only [s170_14, s170_17, m170_18, s170_21, s170_23, s170_24, s170_26, m170_27, s170_28, s170_29, s170_31, s170_32, s170_33, m170_34, s170_37, m170_39, s170_40, m170_41, s170_44, s170_47, s170_48, s170_49, m170_50, s170_53, m170_55, s170_59, s170_59b, s170_62, s170_63, s170_63b, s170_64, s170_65, s170_66, m170_67, s170_70, m170_72, s170_73, s170_74, s170_75, s170_76, s170_79, Int.toNat_natCast, Int.toNat_natCast, Nat.reduceAdd, Nat.reduceMul, Int.reduceToNat, Int.reduceAdd, Int.reduceLT, Int.reduceLE, Int.reduceEq, Int.reduceNeg, Int.reduceMul, Int.reduceSub, Nat.reduceSub, reduceIte, ite_true, ite_false, and_true, true_and, and_self, h1, em, ed, ug_at, ug_ne, c0, c1', m170_56 h110]
        exact this
    · have c1' : ¬ (q : Int) < (n : Int) := by omega
      rw [decide_eq_false c1, Bool.false_and, Bool.false_and] at hQ
      have := hQ (ug G 101 j (q : Int)) (fun h => absurd h Bool.false_ne_true) hG2
      simp (disch := omega) only [s170_14, s170_17, m170_18, s170_21, s170_23, s170_24, s170_26, m170_27, s170_28, s170_29, s170_31, s170_32, s170_33, m170_34, s170_37, m170_39, s170_40, m170_41, s170_44, s170_47, s170_48, s170_49, m170_50, s170_53, m170_55, s170_59, s170_59b, s170_62, s170_63, s170_63b, s170_64, s170_65, s170_66, m170_67, s170_70, m170_72, s170_73, s170_74, s170_75, s170_76, s170_79, Int.toNat_natCast, Int.toNat_natCast, Nat.reduceAdd, Nat.reduceMul, Int.reduceToNat, Int.reduceAdd, Int.reduceLT, Int.reduceLE, Int.reduceEq, Int.reduceNeg, Int.reduceMul, Int.reduceSub, Nat.reduceSub, reduceIte, ite_true, ite_false, and_true, true_and, and_self, h1, em, ed, ug_at, ug_ne, c0, c1']
      exact this
theorem sp170 {d n m N L : Nat} {B : q_Bv} {G : q_Gi} (hd : 2 ≤ d) (hn : n < 7) (h0 : G 82 0 = (n : Int)) (hm : m ≤ 100000) : ∃ G', Sp d 170 [.ref 82, vI m] (hp N L B G) (some (vI (bI (vl n 0 (r6 n m).reverse = true)))) (hp N L B G') ∧ (vl n 0 (r6 n m).reverse = true → ∀ k, k < n → G' 101 k = (((r6 n m).reverse.getD k 0 : Nat) : Int)) ∧ ∀ a, a ≠ 101 → G' a = G a := by
  have hpf := pc_full n hn
  rw [vl_rev hn]
  obtain ⟨r1, X1, hS, G', hr, hX, q⟩ := E170 (d := d) (X := hp N L B G) (z1 := (m : Int)) (Q := fun r1 X1 => ∃ G', r1 = some (vI (bI (vl n 0 (r6 n m) = true))) ∧ X1 = hp N L B G' ∧ (vl n 0 (r6 n m) = true → ∀ k, k < n → G' 101 k = (((r6 n m).reverse.getD k 0 : Nat) : Int)) ∧ ∀ a, a ≠ 101 → G' a = G a) (by omega) (by
    simp (disch := omega) only [s170_0, s170_1, s170_2, s170_3, s170_4, m170_5, s170_8, s170_9, s170_10, Int.toNat_natCast, Int.toNat_natCast, Nat.reduceAdd, Nat.reduceMul, Int.reduceToNat, Int.reduceAdd, Int.reduceLT, Int.reduceLE, Int.reduceEq, Int.reduceNeg, Int.reduceMul, Int.reduceSub, Nat.reduceSub, reduceIte, ite_true, ite_false, and_true, true_and, and_self, h0]
    exact lp170 (d := d - 1) (by omega) hn h0 (by rw [List.length_reverse, r6_len]) n m 0 [] G (Nat.le_refl _) hm hpf.2.2.2 (by rw [List.append_nil]) (fun k h1 h2 => absurd h1 (by omega)) (fun _ _ => rfl) (fun G' h1 h2 => ⟨G', rfl, rfl, h1, h2⟩))
  exact ⟨G', by rw [hr, hX] at hS; exact hS, q⟩
theorem sc_r (t : Int) (H : q_Gi) : ∀ (l : List Nat) (i : Nat), 0 ≤ sc t H i l ∧ sc t H i l ≤ (l.length : Int)
  | [], _ => ⟨Int.le_refl _, Int.le_refl _⟩
  | b :: l, i => by
    have h1 := gS_r t H i b
    have h2 := sc_r t H l (i + 1)
    rw [List.length_cons]
    show 0 ≤ gS t H i b + sc t H (i + 1) l ∧ gS t H i b + sc t H (i + 1) l ≤ _
    omega
def strN : Nat → q_Gi → q_Gi
  | 0, H => H
  | k + 1, H => strokeS (strN k H)
theorem strN_k {H : q_Gi} (ho : Hok H) : ∀ k : Nat, Hok (strN k H) ∧ sameK (strN k H) H ∧ ∀ b : Nat, (b : Int) < H 0 0 → strN k H 3 b = max 0 (H 3 b - (k : Int)) := by
  intro k
  induction k with
  | zero =>
    refine ⟨ho, sameK_r H, fun b hb => ?_⟩
    have h6 := ho.1
    have := ho.2.2.2.1 b (by omega)
    show H 3 b = _
    omega
  | succ k ih =>
    obtain ⟨h1, h2, h3⟩ := ih
    refine ⟨strokeS_ok h1, sameK_t (sameK_stroke _) h2, fun b hb => ?_⟩
    show (if (b : Int) < strN k H 0 0 then max 0 (strN k H 3 b - 1) else strN k H 3 b) = _
    rw [h2.1, if_pos hb, h3 b hb]
    omega
theorem tun_str {t : Int} {H : q_Gi} (ho : Hok H) {k b : Nat} (hb : (b : Int) < H 0 0) : bI (tunS t (strN k H) b = true) = gS t H k b := by
  obtain ⟨h1, h2, h3⟩ := strN_k ho k
  unfold tunS gS
  rw [h2.2.1, h2.2.2.1, h3 b hb]
/-- the STROKES of an order -/
theorem lp171s {d n N L : Nat} {the w al mo nu : Int} {rc : List (Int × Int × List Int)} {B : q_Bv} {G0 H : q_Gi} {fin : List Nat} (hd : 6 ≤ d) (ho : Hok H) (hn : H 0 0 = (n : Int)) (hfin : ∀ k, k < n → G0 101 k = ((fin.getD k 0 : Nat) : Int)) (hlt : ∀ k, k < n → fin.getD k 0 < n) (hfl : fin.length = n) {Q : Option Value → q_H → Prop} : ∀ (suf : List Nat) (k : Nat) (s : Int) (G : q_Gi), k + suf.length = n → (∀ i, i < suf.length → suf.getD i 0 = fin.getD (k + i) 0) → ms G (strN k H) the rc → mf G0 G → 0 ≤ s ∧ s ≤ (k : Int) → (∀ G' : q_Gi, mv G' (strN n H) → mf G0 G' → WP d 171 107 [.ref 82, vI w, vI al, vI mo, vI nu, vI (s + sc (lsR 2 rc 9) H k suf), vI n] [] (hp N L B G') Q) → WP d 171 68 [.ref 82, vI w, vI al, vI mo, vI nu, vI s, vI k] [] (hp N L B G) Q := by
  have hn6 : n ≤ 6 := by have := ho.1; omega
  intro suf
  induction suf with
  | nil =>
    intro k s G hk hs h hfr hr hQ
    rw [List.length_nil] at hk
    obtain rfl : k = n := by omega
    have c0 : G 82 0 = (k : Int) := by rw [h.1.1, (strN_k ho k).2.1.1, hn]
    have h1 : ¬ (k : Int) < (k : Int) := by omega
    have := hQ G h.1 hfr
    rw [show sc (lsR 2 rc 9) H k [] = 0 from rfl, Int.add_zero] at this
    simp (disch := omega) only [s171_68, s171_70, m171_71, s171_74, Int.toNat_natCast, Int.toNat_natCast, Nat.reduceAdd, Nat.reduceMul, Int.reduceToNat, Int.reduceAdd, Int.reduceLT, Int.reduceLE, Int.reduceEq, Int.reduceNeg, Int.reduceMul, Int.reduceSub, Nat.reduceSub, reduceIte, ite_true, ite_false, and_true, true_and, and_self, c0, h1]
    exact this
  | cons b suf ih =>
    intro k s G hk hs h hfr hr hQ
    rw [List.length_cons] at hk
    have c0 : G 82 0 = (n : Int) := by rw [h.1.1, (strN_k ho k).2.1.1, hn]
    have h1 : (k : Int) < (n : Int) := by omega
    have hb0 := hs 0 (by rw [List.length_cons]; omega)
    have hb0' : b = fin.getD k 0 := hb0
    have hbn := hlt k (by omega)
    rw [← hb0'] at hbn
    have w1 : G 101 k = (b : Int) := by rw [hfr.1 101 (by omega) (by omega) (by omega) (by omega), hfin k (by omega), ← hb0']
    obtain ⟨G1, h158, v1, f1⟩ := sp158 (d := d) (b := b) (N := N) (L := L) (B := B) (by omega) h (by omega)
    rw [tun_str ho (by omega)] at h158
    have hg := bI_01 (tunedS (lsR 2 rc 9) (H 1 b) (H 2 b) (max 0 (H 3 b - (k : Int))) = true)
    change gS (lsR 2 rc 9) H k b = 0 ∨ gS (lsR 2 rc 9) H k b = 1 at hg
    have := ih (k + 1) (s + gS (lsR 2 rc 9) H k b) G1 (by omega) (fun i hi => by
      have := hs (i + 1) (by rw [List.length_cons]; omega)
      rw [show k + (i + 1) = k + 1 + i by omega] at this
      exact this) (ms_mf h f1 v1 (strokeS_ok h.2.1)) (mf_t hfr f1) (by omega) (fun G' q1 q2 => by
      have := hQ G' q1 q2
      rw [show sc (lsR 2 rc 9) H k (b :: suf) = gS (lsR 2 rc 9) H k b + sc (lsR 2 rc 9) H (k + 1) suf from rfl, ← Int.add_assoc] at this
      exact this)
    rw [s171_68]
    rcases hg with hg | hg
    · rw [hg] at h158 this
      rw [Int.add_zero] at this
      simp (disch := omega) only [s171_70, m171_71, s171_74, s171_77, s171_79, s171_80, m171_81, s171_84, m171_86, s171_90, s171_90b, s171_93, s171_94, s171_97, s171_98, s171_99, s171_101, s171_104, Int.toNat_natCast, Int.toNat_natCast, Nat.reduceAdd, Nat.reduceMul, Int.reduceToNat, Int.reduceAdd, Int.reduceLT, Int.reduceLE, Int.reduceEq, Int.reduceNeg, Int.reduceMul, Int.reduceSub, Nat.reduceSub, reduceIte, ite_true, ite_false, and_true, true_and, and_self, c0, h1, w1, m171_87 h158, Int.add_zero]
      exact this
    · rw [hg] at h158 this
      simp (disch := omega) only [s171_70, m171_71, s171_74, s171_77, s171_79, s171_80, m171_81, s171_84, m171_86, s171_90, s171_90b, s171_93, s171_94, s171_97, s171_98, s171_99, s171_101, s171_104, Int.toNat_natCast, Int.toNat_natCast, Nat.reduceAdd, Nat.reduceMul, Int.reduceToNat, Int.reduceAdd, Int.reduceLT, Int.reduceLE, Int.reduceEq, Int.reduceNeg, Int.reduceMul, Int.reduceSub, Nat.reduceSub, reduceIte, ite_true, ite_false, and_true, true_and, and_self, c0, h1, w1, m171_87 h158]
      exact this
theorem lp171 {d n N L : Nat} {the w : Int} {rc : List (Int × Int × List Int)} {B : q_Bv} {G0 H : q_Gi} (hd : 8 ≤ d) (ho : Hok H) (hn : H 0 0 = (n : Int)) {Q : Option Value → q_H → Prop} : ∀ (r m : Nat) (st : Int × List Nat) (G : q_Gi) (x y : Value), m + r = 6 ^ n → ms G H the rc → G 82 26 = 99999 → mq G0 G → -1 ≤ st.1 ∧ st.1 ≤ 6 → (0 ≤ st.1 → ∀ k, k < n → G 102 k = ((st.2.getD k 0 : Nat) : Int)) → nL x = true → nL y = true → (∀ (G' : q_Gi) (st' : Int × List Nat) (x y : Value), mv G' H → G' 82 26 = 99999 → mq G0 G' → st' = ((List.range' m r).map (fun m => (r6 n m).reverse)).foldl (stR (lsR 2 rc 9) H n) st → (0 ≤ st'.1 → ∀ k, k < n → G' 102 k = ((st'.2.getD k 0 : Nat) : Int)) → nL x = true → nL y = true → WP d 171 159 [.ref 82, vI w, vI ((6 ^ n : Nat) : Int), vI st'.1, vI ((6 ^ n : Nat) : Int), x, y] [] (hp N L B G') Q) → WP d 171 40 [.ref 82, vI w, vI ((6 ^ n : Nat) : Int), vI st.1, vI m, x, y] [] (hp N L B G) Q := by
  have hn6 : n ≤ 6 := by have := ho.1; omega
  have h6 : 6 ^ n ≤ 46656 := Nat.pow_le_pow_right (n := 6) (by decide) hn6
  intro r
  induction r with
  | zero =>
    intro m st G x y hm h hM hfr hst hb hx hy hQ
    rw [Nat.add_zero] at hm
    have h1 : ¬ (m : Int) < ((6 ^ n : Nat) : Int) := by omega
    have := hQ G st x y h.1 hM hfr rfl hb hx hy
    rw [hm] at h1 ⊢
    simp (disch := first | omega | assumption) only [s171_40, s171_42, s171_43, Int.toNat_natCast, Int.toNat_natCast, Nat.reduceAdd, Nat.reduceMul, Int.reduceToNat, Int.reduceAdd, Int.reduceLT, Int.reduceLE, Int.reduceEq, Int.reduceNeg, Int.reduceMul, Int.reduceSub, Nat.reduceSub, reduceIte, ite_true, ite_false, and_true, true_and, and_self, h1]
    exact this
  | succ r ih =>
    intro m st G x y hm h hM hfr hst hb hx hy hQ
    have h1 : (m : Int) < ((6 ^ n : Nat) : Int) := by omega
    have v0 := h.1.1
    rw [hn] at v0
    obtain ⟨G1, h170, d1, f1⟩ := sp170 (d := d) (n := n) (m := m) (N := N) (L := L) (B := B) (G := G) (by omega) (by omega) v0 (by omega)
    have v1 := mv_f h.1 (fun a _ _ => f1 a (by omega))
    have q1 : mq G G1 := ⟨fun a _ _ _ w => f1 a (by omega), fun k _ _ _ _ _ => by rw [f1 82 (by omega)]⟩
    have ms1 := ms_mq h q1 v1 h.2.1
    have hM1 : G1 82 26 = 99999 := by rw [f1 82 (by omega)]; exact hM
    have hb1 : 0 ≤ st.1 → ∀ k, k < n → G1 102 k = ((st.2.getD k 0 : Nat) : Int) := by rw [f1 102 (by omega)]; exact hb
    rw [List.range'_succ, List.map_cons, List.foldl_cons] at hQ
    have hfl : (r6 n m).reverse.length = n := by rw [List.length_reverse, r6_len]
    generalize hfin : (r6 n m).reverse = fin at h170 d1 hQ hfl
    have e0 : stR (lsR 2 rc 9) H n st fin = if vl n 0 fin = true ∧ st.1 < sc (lsR 2 rc 9) H 0 fin then (sc (lsR 2 rc 9) H 0 fin, fin) else st := rfl
    rw [e0] at hQ
    rw [s171_40]
    by_cases cv : vl n 0 fin = true
    · rw [bI_t cv] at h170
      have hpf := pc_full n (by omega)
      have hvl := (vl_iff (by omega) fin 0 hpf.2.2.2).mp cv
      obtain ⟨G2, h160, w2, k2, m2, f2⟩ := sp160 (d := d) (N := N) (L := L) (B := B) (by omega) v1
      have ms2 : ms G2 H the rc := ms_mq ms1 (mq_sf f2) w2 h.2.1
      have hs := sc_r (lsR 2 rc 9) H fin 0
      rw [hfl] at hs
      simp (disch := first | omega | assumption) only [s171_42, s171_43, s171_46, s171_47, s171_52, s171_52b, s171_55, s171_58, s171_62, s171_63, s171_65, s171_66, Int.toNat_natCast, Int.toNat_natCast, Nat.reduceAdd, Nat.reduceMul, Int.reduceToNat, Int.reduceAdd, Int.reduceLT, Int.reduceLE, Int.reduceEq, Int.reduceNeg, Int.reduceMul, Int.reduceSub, Nat.reduceSub, reduceIte, ite_true, ite_false, and_true, true_and, and_self, h1, m171_49 h170, m171_59 h160]
      refine lp171s (d := d) (G0 := G2) (fin := fin) (by omega) ho hn (fun k hk => by rw [f2.1 101 (by omega) (by omega) (by omega)]; exact d1 cv k hk) (fun k hk => ?_) hfl fin 0 0 G2 (by omega) (fun i _ => by rw [Nat.zero_add]) ms2 (mf_r G2) (by omega) (fun G3 q3 f3 => ?_)
      · have hmem : fin.getD k 0 ∈ fin := by
          rw [List.getD_eq_getElem?_getD, List.getElem?_eq_getElem (by omega)]
          exact List.getElem_mem _
        exact (hvl.1 _ hmem).1
      · rw [Int.zero_add]
        obtain ⟨G4, h161, w4, m4, f4⟩ := sp161 (d := d) (N := N) (L := L) (B := B) (by omega) q3 (strN_k ho n).2.1 (ks_f k2 f3)
        have qq : mq G G4 := mq_t q1 (mq_t (mq_sf f2) (mq_t (mq_mf f3) (mq_pb f4)))
        have g101 : ∀ k, k < n → G4 101 k = ((fin.getD k 0 : Nat) : Int) := fun k hk => by
          rw [f4.1 101 (by omega) (by omega) (by omega), f3.1 101 (by omega) (by omega) (by omega) (by omega), f2.1 101 (by omega) (by omega) (by omega)]
          exact d1 cv k hk
        have g102 : G4 102 = G1 102 := by rw [f4.1 102 (by omega) (by omega) (by omega), f3.1 102 (by omega) (by omega) (by omega) (by omega), f2.1 102 (by omega) (by omega) (by omega)]
        generalize hsc : sc (lsR 2 rc 9) H 0 fin = s at hs hQ ⊢
        by_cases cs : st.1 < s
        · rw [if_pos ⟨cv, cs⟩] at hQ
          have hc := fun (G5 : q_Gi) (hG5 : G5 = ug (ug (ug (ug (ug (ug G4 102 0 (G4 101 0)) 102 1 (G4 101 1)) 102 2 (G4 101 2)) 102 3 (G4 101 3)) 102 4 (G4 101 4)) 102 5 (G4 101 5)) => ih (m + 1) (s, fin) G5 (vI s) (vI 6) (by omega) (by rw [hG5]; exact ms_mq h (mq_t qq ⟨fun a _ _ _ w => by simp (disch := omega) only [ug_ne], fun k _ _ _ _ _ => by simp (disch := omega) only [ug_ne]⟩) (mv_f w4 (fun a _ _ => by simp (disch := omega) only [ug_ne])) h.2.1) (by rw [hG5]; simp (disch := omega) only [ug_ne]; exact m4) (by rw [hG5]; exact mq_t (mq_t hfr qq) ⟨fun a _ _ _ w => by simp (disch := omega) only [ug_ne], fun k _ _ _ _ _ => by simp (disch := omega) only [ug_ne]⟩) (by simp only []; omega) (fun _ k hk => by
            rw [hG5]
            have hk' : k = 0 ∨ k = 1 ∨ k = 2 ∨ k = 3 ∨ k = 4 ∨ k = 5 := by omega
            have := g101 k hk
            rcases hk' with rfl | rfl | rfl | rfl | rfl | rfl <;> (simp (disch := omega) only [ug_at, ug_k]; exact this)) rfl rfl hQ
          have := hc _ rfl
          simp (disch := first | omega | assumption) only [s171_107, s171_111, s171_113, s171_114, s171_117, s171_120, s171_122, s171_123, s171_124, s171_126, s171_128, s171_130, s171_133, m171_134, s171_137, s171_139, m171_140, s171_143, m171_145, m171_146, s171_147, s171_150, s171_153, s171_156, Int.toNat_natCast, Int.toNat_natCast, Nat.reduceAdd, Nat.reduceMul, Int.reduceToNat, Int.reduceAdd, Int.reduceLT, Int.reduceLE, Int.reduceEq, Int.reduceNeg, Int.reduceMul, Int.reduceSub, Nat.reduceSub, reduceIte, ite_true, ite_false, and_true, true_and, and_self, m171_108 h161, cs, ug_ne]
          exact this
        · rw [if_neg (fun hh => cs hh.2)] at hQ
          have := ih (m + 1) st G4 (vI s) (vI n) (by omega) (ms_mq h qq w4 h.2.1) m4 (mq_t hfr qq) hst (by rw [g102]; exact hb1) rfl rfl hQ
          simp (disch := first | omega | assumption) only [s171_107, s171_111, s171_113, s171_114, s171_117, s171_120, s171_122, s171_123, s171_124, s171_126, s171_128, s171_130, s171_133, m171_134, s171_137, s171_139, m171_140, s171_143, m171_145, m171_146, s171_147, s171_150, s171_153, s171_156, Int.toNat_natCast, Int.toNat_natCast, Nat.reduceAdd, Nat.reduceMul, Int.reduceToNat, Int.reduceAdd, Int.reduceLT, Int.reduceLE, Int.reduceEq, Int.reduceNeg, Int.reduceMul, Int.reduceSub, Nat.reduceSub, reduceIte, ite_true, ite_false, and_true, true_and, and_self, m171_108 h161, cs]
          exact this
    · rw [bI_f cv] at h170
      rw [if_neg (fun hh => cv hh.1)] at hQ
      have := ih (m + 1) st G1 x y (by omega) ms1 hM1 (mq_t hfr q1) hst hb1 hx hy hQ
      simp (disch := first | omega | assumption) only [s171_42, s171_43, s171_46, s171_47, s171_52, s171_52b, s171_55, s171_153, s171_156, Int.toNat_natCast, Int.toNat_natCast, Nat.reduceAdd, Nat.reduceMul, Int.reduceToNat, Int.reduceAdd, Int.reduceLT, Int.reduceLE, Int.reduceEq, Int.reduceNeg, Int.reduceMul, Int.reduceSub, Nat.reduceSub, reduceIte, ite_true, ite_false, and_true, true_and, and_self, h1, m171_49 h170]
      exact this
theorem lp171a {d n N L : Nat} {w : Int} {B : q_Bv} {G : q_Gi} (h0 : G 82 0 = (n : Int)) (hn6 : n ≤ 6) {Q : Option Value → q_H → Prop} : ∀ (r k : Nat), k + r = n → WP d 171 35 [.ref 82, vI w, vI ((6 ^ n : Nat) : Int), vI n, .null, .null, .null] [] (hp N L B G) Q → WP d 171 16 [.ref 82, vI w, vI ((6 ^ k : Nat) : Int), vI k, .null, .null, .null] [] (hp N L B G) Q := by
  intro r
  induction r with
  | zero =>
    intro k hk hR
    obtain rfl : k = n := by omega
    have h1 : ¬ (k : Int) < (k : Int) := by omega
    simp (disch := omega) only [s171_16, s171_17, m171_18, s171_21, Int.toNat_natCast, Int.toNat_natCast, Nat.reduceAdd, Nat.reduceMul, Int.reduceToNat, Int.reduceAdd, Int.reduceLT, Int.reduceLE, Int.reduceEq, Int.reduceNeg, Int.reduceMul, Int.reduceSub, Nat.reduceSub, reduceIte, ite_true, ite_false, and_true, true_and, and_self, h0, h1]
    exact hR
  | succ r ih =>
    intro k hk hR
    have h1 : (k : Int) < (n : Int) := by omega
    have := ih (k + 1) (by omega) hR
    have e : ((6 ^ k : Nat) : Int) * 6 = ((6 ^ (k + 1) : Nat) : Int) := by rw [Nat.pow_succ]; rfl
    rw [s171_16]
    simp (disch := omega) only [s171_17, m171_18, s171_21, s171_24, s171_25, s171_27, s171_28, s171_29, s171_32, Int.toNat_natCast, Int.toNat_natCast, Nat.reduceAdd, Nat.reduceMul, Int.reduceToNat, Int.reduceAdd, Int.reduceLT, Int.reduceLE, Int.reduceEq, Int.reduceNeg, Int.reduceMul, Int.reduceSub, Nat.reduceSub, reduceIte, ite_true, ite_false, and_true, true_and, and_self, h0, h1, e]
    exact this
theorem grL_len (t : Int) (H : q_Gi) (n : Nat) : ∀ k S, (grL t H n k S).length = k
  | 0, _ => rfl
  | k + 1, S => by show (grL t H n k _).length + 1 = k + 1; rw [grL_len t H n k]
theorem sp171 {d N L : Nat} {the w : Int} {rc : List (Int × Int × List Int)} {B : q_Bv} {G H : q_Gi} (hd : 10 ≤ d) (h : ms G H the rc) (hM : G 82 26 = 99999) (hw : -2147483648 ≤ w ∧ w ≤ 2147483647) : ∃ G', Sp d 171 [.ref 82, vI w] (hp N L B G) (some (vI (ringS (lsR 2 rc 9) H w))) (hp N L B G') ∧ mv G' H ∧ G' 82 26 = 99999 ∧ mq G G' := by
  have h0 := h
  obtain ⟨hv, ho, h9, hm⟩ := h
  obtain ⟨n, hn⟩ : ∃ n : Nat, H 0 0 = (n : Int) := ⟨(H 0 0).toNat, by have := ho.1; omega⟩
  have hn6 : n ≤ 6 := by have := ho.1; omega
  have v0 := hv.1
  rw [hn] at v0
  have a2 := sp109 (d := d - 1) (z := w) (lo := -1) (hi := 5) (X := hp N L B G) (by omega) hw (by omega) (by omega)
  unfold ringS
  rw [hn, Int.toNat_natCast]
  by_cases cw : -1 ≤ w ∧ w ≤ 5
  · rw [bI_t cw] at a2
    rw [if_neg (show ¬ (w < -1 ∨ 6 ≤ w) by omega)]
    have vr := VS_r (lsR 2 rc 9) H n n 0
    obtain ⟨r1, X1, hS, G', hr, hX, q⟩ := E171 (d := d) (X := hp N L B G) (z1 := w) (Q := fun r1 X1 => ∃ G', r1 = some (vI (if (n : Int) ≤ w then -5 else if w < 0 then VS (lsR 2 rc 9) H n n 0 else (((grL (lsR 2 rc 9) H n n 0).getD w.toNat 0 : Nat) : Int))) ∧ X1 = hp N L B G' ∧ mv G' H ∧ G' 82 26 = 99999 ∧ mq G G') (by omega) (by
      simp (disch := omega) only [s171_0, s171_1, s171_2, s171_3, s171_7, s171_7b, s171_10, s171_11, s171_12, s171_13, s171_14, s171_15, Int.toNat_natCast, Int.toNat_natCast, Nat.reduceAdd, Nat.reduceMul, Int.reduceToNat, Int.reduceAdd, Int.reduceLT, Int.reduceLE, Int.reduceEq, Int.reduceNeg, Int.reduceMul, Int.reduceSub, Nat.reduceSub, reduceIte, ite_true, ite_false, and_true, true_and, and_self, m171_4 a2]
      refine lp171a (d := d - 1) v0 hn6 n 0 (by omega) ?_
      simp (disch := omega) only [s171_35, s171_36, s171_37, s171_38, Int.toNat_natCast, Int.toNat_natCast, Nat.reduceAdd, Nat.reduceMul, Int.reduceToNat, Int.reduceAdd, Int.reduceLT, Int.reduceLE, Int.reduceEq, Int.reduceNeg, Int.reduceMul, Int.reduceSub, Nat.reduceSub, reduceIte, ite_true, ite_false, and_true, true_and, and_self]
      refine lp171 (d := d - 1) (by omega) ho hn (6 ^ n) 0 (-1, []) G .null .null (by omega) h0 hM (mq_r G) (by decide) (fun hh => absurd hh (by decide)) rfl rfl (fun G' st' x y q1 q2 q3 q4 q5 hx hy => ?_)
      rw [L6, ring_E (by omega)] at q4
      rw [q4] at q5 ⊢
      have vf := q1.1
      rw [hn] at vf
      by_cases c1 : w < 0
      · rw [if_neg (show ¬ (n : Int) ≤ w by omega), if_pos c1]
        simp (disch := first | omega | assumption) only [s171_159, s171_160, s171_163, s171_164, s171_165, s171_166, m171_167, s171_170, s171_173, m171_174, s171_177, m171_178, s171_179, s171_182, s171_184, Int.toNat_natCast, Int.toNat_natCast, Nat.reduceAdd, Nat.reduceMul, Int.reduceToNat, Int.reduceAdd, Int.reduceLT, Int.reduceLE, Int.reduceEq, Int.reduceNeg, Int.reduceMul, Int.reduceSub, Nat.reduceSub, reduceIte, ite_true, ite_false, and_true, true_and, and_self, c1]
        exact ⟨G', rfl, q1, q2, q3⟩
      · by_cases c2 : (n : Int) ≤ w
        · have c2' : ¬ w < (n : Int) := by omega
          rw [if_pos c2]
          simp (disch := first | omega | assumption) only [s171_159, s171_160, s171_163, s171_164, s171_165, s171_166, m171_167, s171_170, s171_173, m171_174, s171_177, m171_178, s171_179, s171_182, s171_184, Int.toNat_natCast, Int.toNat_natCast, Nat.reduceAdd, Nat.reduceMul, Int.reduceToNat, Int.reduceAdd, Int.reduceLT, Int.reduceLE, Int.reduceEq, Int.reduceNeg, Int.reduceMul, Int.reduceSub, Nat.reduceSub, reduceIte, ite_true, ite_false, and_true, true_and, and_self, c1, vf, c2']
          exact ⟨G', rfl, q1, q2, q3⟩
        · have c2' : w < (n : Int) := by omega
          rw [if_neg c2, if_neg c1]
          have e5 := q5 vr.1 w.toNat (by omega)
          simp (disch := first | omega | assumption) only [s171_159, s171_160, s171_163, s171_164, s171_165, s171_166, m171_167, s171_170, s171_173, m171_174, s171_177, m171_178, s171_179, s171_182, s171_184, Int.toNat_natCast, Int.toNat_natCast, Nat.reduceAdd, Nat.reduceMul, Int.reduceToNat, Int.reduceAdd, Int.reduceLT, Int.reduceLE, Int.reduceEq, Int.reduceNeg, Int.reduceMul, Int.reduceSub, Nat.reduceSub, reduceIte, ite_true, ite_false, and_true, true_and, and_self, c1, vf, c2', e5]
          exact ⟨G', rfl, q1, q2, q3⟩)
    exact ⟨G', by rw [hr, hX] at hS; exact hS, q⟩
  · rw [bI_f cw] at a2
    rw [if_pos (show w < -1 ∨ 6 ≤ w by omega)]
    refine ⟨G, ?_, hv, hM, mq_r G⟩
    refine e171 (by omega) ?_
    simp (disch := omega) only [s171_0, s171_1, s171_2, s171_3, s171_7, s171_7b, s171_10, s171_11, Int.toNat_natCast, Int.toNat_natCast, Nat.reduceAdd, Nat.reduceMul, Int.reduceToNat, Int.reduceAdd, Int.reduceLT, Int.reduceLE, Int.reduceEq, Int.reduceNeg, Int.reduceMul, Int.reduceSub, Nat.reduceSub, reduceIte, ite_true, ite_false, and_true, true_and, and_self, m171_4 a2]
