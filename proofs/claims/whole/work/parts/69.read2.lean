/-! words; the class's uplands as they are written -/
def wrdS (nx : Nat → Int) : List Int → Nat → Bool × Nat
  | [], p => (true, p)
  | c :: l, p => if nx p = c then wrdS nx l (p + 1) else (false, p)
def nbS (nx : Nat → Int) (w : List Int) (p : Nat) : Int × Nat := if (wrdS nx w p).1 = true then numS nx (wrdS nx w p).2 else (-1, (wrdS nx w p).2)
theorem wrd_g {nx : Nat → Int} {n : Nat} (h : txt nx n) : ∀ (l : List Int) (p : Nat), (∀ c, c ∈ l → 0 ≤ c) → p ≤ n → p ≤ (wrdS nx l p).2 ∧ (wrdS nx l p).2 ≤ n := by
  intro l
  induction l with
  | nil => intro p _ hp; exact ⟨Nat.le_refl _, hp⟩
  | cons c l ih =>
    intro p hc hp
    unfold wrdS
    by_cases e : nx p = c
    · rw [if_pos e]
      have := ih (p + 1) (fun c hc' => hc c (List.mem_cons_of_mem _ hc')) (txt_lt h (hc c List.mem_cons_self) e)
      omega
    · rw [if_neg e]; exact ⟨Nat.le_refl _, hp⟩
theorem nb_g {nx : Nat → Int} {n : Nat} (h : txt nx n) (l : List Int) (p : Nat) (hc : ∀ c, c ∈ l → 0 ≤ c) (hp : p ≤ n) : p ≤ (nbS nx l p).2 ∧ (nbS nx l p).2 ≤ n ∧ -1 ≤ (nbS nx l p).1 ∧ (nbS nx l p).1 ≤ 99 := by
  have h1 := wrd_g h l p hc hp
  unfold nbS
  by_cases c : (wrdS nx l p).1 = true
  · rw [if_pos c]
    have h2 := num_g h h1.2
    omega
  · rw [if_neg c]
    simp only []
    omega
def wdT : List Int := [116, 117, 110, 101, 32]
def wdG : List Int := [103, 114, 111, 119, 32]
def wdO : List Int := [108, 111, 97, 116, 104, 101, 115, 32]
def wdI : List Int := [108, 105, 107, 101, 115, 32]
theorem lp32_0 {d n N L : Nat} {B : q_Bv} {G : q_Gi} (hd : 6 ≤ d) (h : rdr G n) : ∀ (l : List Int) (i p : Nat), i + l.length = 5 → (∀ k, k < l.length → q_ro 1020 (i + k) = vI (l.getD k 0)) → (∀ c, c ∈ l → 0 ≤ c ∧ c ≤ 127) → p ≤ n → WP d 32 2 [.ref 56, .ref 1010, vI i] [] (hp N L B (ug G 56 2 p)) (fun r1 X1 => r1 = some (vI (nbS (nxG G n) l p).1) ∧ X1 = hp N L B (ug G 56 2 ((nbS (nxG G n) l p).2 : Nat))) := by
  intro l
  induction l with
  | nil =>
    intro i p hi hw hc hpn
    have h208 := sp208_0 (d := d) (N := N) (L := L) (B := B) (G := ug G 56 2 p) (by omega)
    have h33 := sp33 (d := d) (N := N) (L := L) (B := B) (by omega) h hpn
    have e : ((i : Nat) : Int) = 5 := by rw [List.length_nil] at hi; omega
    have en : nbS (nxG G n) [] p = numS (nxG G n) p := rfl
    rw [e, en]
    simp (disch := first | omega | decide) only [s32_0, s32_1, s32_2, s32_3, s32_7, s32_10, s32_11, s32_12, s32_19, s32_19b, s32_22, s32_23, s32_24, s32_27, s32_30, s32_34, Int.toNat_natCast, Int.toNat_natCast, Nat.reduceAdd, Nat.reduceMul, Int.reduceToNat, Int.reduceAdd, Int.reduceLT, Int.reduceLE, Int.reduceEq, Int.reduceNeg, Int.reduceMul, Int.reduceSub, Nat.reduceSub, reduceIte, ite_true, ite_false, and_true, true_and, and_self, c32_4 (by rfl) h208, m32_31 h33]
  | cons c l ih =>
    intro i p hi hw hc hpn
    rw [List.length_cons] at hi
    have h208 := sp208_0 (d := d) (N := N) (L := L) (B := B) (G := ug G 56 2 p) (by omega)
    have hc0 := hc c List.mem_cons_self
    have e0 := hw 0 (by rw [List.length_cons]; omega)
    obtain ⟨cn, rfl⟩ : ∃ cn : Nat, c = (cn : Int) := ⟨c.toNat, by omega⟩
    have h209 := sp209_0 (d := d) (i := i) (N := N) (L := L) (B := B) (G := ug G 56 2 p) (by omega) (by omega) (by omega) e0
    have hlt : (i : Int) < 5 := by omega
    by_cases e : nxG G n p = (cn : Int)
    · have h30 := sp30_t (d := d) (N := N) (L := L) (B := B) (by omega) h hc0.1 e
      have l1 := txt_lt (txt_of h) hc0.1 e
      have en : nbS (nxG G n) ((cn : Int) :: l) p = nbS (nxG G n) l (p + 1) := by
        unfold nbS
        rw [show wrdS (nxG G n) ((cn : Int) :: l) p = if nxG G n p = (cn : Int) then wrdS (nxG G n) l (p + 1) else (false, p) from rfl, if_pos e]
      have := ih (i + 1) (p + 1) (by omega) (fun k hk => by
        have := hw (k + 1) (by rw [List.length_cons]; omega)
        rw [show i + (k + 1) = i + 1 + k by omega] at this
        exact this) (fun c hc' => hc c (List.mem_cons_of_mem _ hc')) (by omega)
      rw [en]
      rw [s32_2]
      simp (disch := first | omega | decide) only [s32_3, s32_7, s32_10, s32_11, s32_12, s32_19, s32_19b, s32_22, s32_23, s32_24, s32_27, Int.toNat_natCast, Int.toNat_natCast, Nat.reduceAdd, Nat.reduceMul, Int.reduceToNat, Int.reduceAdd, Int.reduceLT, Int.reduceLE, Int.reduceEq, Int.reduceNeg, Int.reduceMul, Int.reduceSub, Nat.reduceSub, reduceIte, ite_true, ite_false, and_true, true_and, and_self, c32_4 (by rfl) h208, hlt, c32_13 (by rfl) h209, m32_16 h30]
      exact this
    · have h30 := sp30_f (d := d) (N := N) (L := L) (B := B) (by omega) h hc0 hpn e
      have en : nbS (nxG G n) ((cn : Int) :: l) p = (-1, p) := by
        unfold nbS
        rw [show wrdS (nxG G n) ((cn : Int) :: l) p = if nxG G n p = (cn : Int) then wrdS (nxG G n) l (p + 1) else (false, p) from rfl, if_neg e, if_neg Bool.false_ne_true]
      rw [en]
      simp (disch := first | omega | decide) only [s32_0, s32_1, s32_2, s32_3, s32_7, s32_10, s32_11, s32_12, s32_19, s32_19b, s32_22, s32_23, s32_24, s32_27, s32_30, s32_34, Int.toNat_natCast, Int.toNat_natCast, Nat.reduceAdd, Nat.reduceMul, Int.reduceToNat, Int.reduceAdd, Int.reduceLT, Int.reduceLE, Int.reduceEq, Int.reduceNeg, Int.reduceMul, Int.reduceSub, Nat.reduceSub, reduceIte, ite_true, ite_false, and_true, true_and, and_self, c32_4 (by rfl) h208, hlt, c32_13 (by rfl) h209, m32_16 h30]
theorem sp32_0 {d n p N L : Nat} {B : q_Bv} {G : q_Gi} (hd : 7 ≤ d) (h : rdr G n) (hpn : p ≤ n) : Sp d 32 [.ref 56, .ref 1010] (hp N L B (ug G 56 2 p)) (some (vI (nbS (nxG G n) wdT p).1)) (hp N L B (ug G 56 2 ((nbS (nxG G n) wdT p).2 : Nat))) := by
  refine e32 (by omega) ?_
  simp (disch := first | omega | decide) only [s32_0, s32_1, Int.toNat_natCast, Int.toNat_natCast, Nat.reduceAdd, Nat.reduceMul, Int.reduceToNat, Int.reduceAdd, Int.reduceLT, Int.reduceLE, Int.reduceEq, Int.reduceNeg, Int.reduceMul, Int.reduceSub, Nat.reduceSub, reduceIte, ite_true, ite_false, and_true, true_and, and_self]
  have hw : ∀ k, k < 5 → q_ro 1020 (0 + k) = vI (wdT.getD k 0) := by
    intro k hk
    rw [Nat.zero_add]
    have hk' : k=0∨k=1∨k=2∨k=3∨k=4 := by omega
    rcases hk' with rfl|rfl|rfl|rfl|rfl <;> rfl
  exact lp32_0 (d := d - 1) (by omega) h wdT 0 p rfl hw (by decide) hpn
theorem lp32_1 {d n N L : Nat} {B : q_Bv} {G : q_Gi} (hd : 6 ≤ d) (h : rdr G n) : ∀ (l : List Int) (i p : Nat), i + l.length = 5 → (∀ k, k < l.length → q_ro 1021 (i + k) = vI (l.getD k 0)) → (∀ c, c ∈ l → 0 ≤ c ∧ c ≤ 127) → p ≤ n → WP d 32 2 [.ref 56, .ref 1011, vI i] [] (hp N L B (ug G 56 2 p)) (fun r1 X1 => r1 = some (vI (nbS (nxG G n) l p).1) ∧ X1 = hp N L B (ug G 56 2 ((nbS (nxG G n) l p).2 : Nat))) := by
  intro l
  induction l with
  | nil =>
    intro i p hi hw hc hpn
    have h208 := sp208_1 (d := d) (N := N) (L := L) (B := B) (G := ug G 56 2 p) (by omega)
    have h33 := sp33 (d := d) (N := N) (L := L) (B := B) (by omega) h hpn
    have e : ((i : Nat) : Int) = 5 := by rw [List.length_nil] at hi; omega
    have en : nbS (nxG G n) [] p = numS (nxG G n) p := rfl
    rw [e, en]
    simp (disch := first | omega | decide) only [s32_0, s32_1, s32_2, s32_3, s32_7, s32_10, s32_11, s32_12, s32_19, s32_19b, s32_22, s32_23, s32_24, s32_27, s32_30, s32_34, Int.toNat_natCast, Int.toNat_natCast, Nat.reduceAdd, Nat.reduceMul, Int.reduceToNat, Int.reduceAdd, Int.reduceLT, Int.reduceLE, Int.reduceEq, Int.reduceNeg, Int.reduceMul, Int.reduceSub, Nat.reduceSub, reduceIte, ite_true, ite_false, and_true, true_and, and_self, c32_4 (by rfl) h208, m32_31 h33]
  | cons c l ih =>
    intro i p hi hw hc hpn
    rw [List.length_cons] at hi
    have h208 := sp208_1 (d := d) (N := N) (L := L) (B := B) (G := ug G 56 2 p) (by omega)
    have hc0 := hc c List.mem_cons_self
    have e0 := hw 0 (by rw [List.length_cons]; omega)
    obtain ⟨cn, rfl⟩ : ∃ cn : Nat, c = (cn : Int) := ⟨c.toNat, by omega⟩
    have h209 := sp209_1 (d := d) (i := i) (N := N) (L := L) (B := B) (G := ug G 56 2 p) (by omega) (by omega) (by omega) e0
    have hlt : (i : Int) < 5 := by omega
    by_cases e : nxG G n p = (cn : Int)
    · have h30 := sp30_t (d := d) (N := N) (L := L) (B := B) (by omega) h hc0.1 e
      have l1 := txt_lt (txt_of h) hc0.1 e
      have en : nbS (nxG G n) ((cn : Int) :: l) p = nbS (nxG G n) l (p + 1) := by
        unfold nbS
        rw [show wrdS (nxG G n) ((cn : Int) :: l) p = if nxG G n p = (cn : Int) then wrdS (nxG G n) l (p + 1) else (false, p) from rfl, if_pos e]
      have := ih (i + 1) (p + 1) (by omega) (fun k hk => by
        have := hw (k + 1) (by rw [List.length_cons]; omega)
        rw [show i + (k + 1) = i + 1 + k by omega] at this
        exact this) (fun c hc' => hc c (List.mem_cons_of_mem _ hc')) (by omega)
      rw [en]
      rw [s32_2]
      simp (disch := first | omega | decide) only [s32_3, s32_7, s32_10, s32_11, s32_12, s32_19, s32_19b, s32_22, s32_23, s32_24, s32_27, Int.toNat_natCast, Int.toNat_natCast, Nat.reduceAdd, Nat.reduceMul, Int.reduceToNat, Int.reduceAdd, Int.reduceLT, Int.reduceLE, Int.reduceEq, Int.reduceNeg, Int.reduceMul, Int.reduceSub, Nat.reduceSub, reduceIte, ite_true, ite_false, and_true, true_and, and_self, c32_4 (by rfl) h208, hlt, c32_13 (by rfl) h209, m32_16 h30]
      exact this
    · have h30 := sp30_f (d := d) (N := N) (L := L) (B := B) (by omega) h hc0 hpn e
      have en : nbS (nxG G n) ((cn : Int) :: l) p = (-1, p) := by
        unfold nbS
        rw [show wrdS (nxG G n) ((cn : Int) :: l) p = if nxG G n p = (cn : Int) then wrdS (nxG G n) l (p + 1) else (false, p) from rfl, if_neg e, if_neg Bool.false_ne_true]
      rw [en]
      simp (disch := first | omega | decide) only [s32_0, s32_1, s32_2, s32_3, s32_7, s32_10, s32_11, s32_12, s32_19, s32_19b, s32_22, s32_23, s32_24, s32_27, s32_30, s32_34, Int.toNat_natCast, Int.toNat_natCast, Nat.reduceAdd, Nat.reduceMul, Int.reduceToNat, Int.reduceAdd, Int.reduceLT, Int.reduceLE, Int.reduceEq, Int.reduceNeg, Int.reduceMul, Int.reduceSub, Nat.reduceSub, reduceIte, ite_true, ite_false, and_true, true_and, and_self, c32_4 (by rfl) h208, hlt, c32_13 (by rfl) h209, m32_16 h30]
theorem sp32_1 {d n p N L : Nat} {B : q_Bv} {G : q_Gi} (hd : 7 ≤ d) (h : rdr G n) (hpn : p ≤ n) : Sp d 32 [.ref 56, .ref 1011] (hp N L B (ug G 56 2 p)) (some (vI (nbS (nxG G n) wdG p).1)) (hp N L B (ug G 56 2 ((nbS (nxG G n) wdG p).2 : Nat))) := by
  refine e32 (by omega) ?_
  simp (disch := first | omega | decide) only [s32_0, s32_1, Int.toNat_natCast, Int.toNat_natCast, Nat.reduceAdd, Nat.reduceMul, Int.reduceToNat, Int.reduceAdd, Int.reduceLT, Int.reduceLE, Int.reduceEq, Int.reduceNeg, Int.reduceMul, Int.reduceSub, Nat.reduceSub, reduceIte, ite_true, ite_false, and_true, true_and, and_self]
  have hw : ∀ k, k < 5 → q_ro 1021 (0 + k) = vI (wdG.getD k 0) := by
    intro k hk
    rw [Nat.zero_add]
    have hk' : k=0∨k=1∨k=2∨k=3∨k=4 := by omega
    rcases hk' with rfl|rfl|rfl|rfl|rfl <;> rfl
  exact lp32_1 (d := d - 1) (by omega) h wdG 0 p rfl hw (by decide) hpn
theorem lp32_2 {d n N L : Nat} {B : q_Bv} {G : q_Gi} (hd : 6 ≤ d) (h : rdr G n) : ∀ (l : List Int) (i p : Nat), i + l.length = 8 → (∀ k, k < l.length → q_ro 1022 (i + k) = vI (l.getD k 0)) → (∀ c, c ∈ l → 0 ≤ c ∧ c ≤ 127) → p ≤ n → WP d 32 2 [.ref 56, .ref 1012, vI i] [] (hp N L B (ug G 56 2 p)) (fun r1 X1 => r1 = some (vI (nbS (nxG G n) l p).1) ∧ X1 = hp N L B (ug G 56 2 ((nbS (nxG G n) l p).2 : Nat))) := by
  intro l
  induction l with
  | nil =>
    intro i p hi hw hc hpn
    have h208 := sp208_2 (d := d) (N := N) (L := L) (B := B) (G := ug G 56 2 p) (by omega)
    have h33 := sp33 (d := d) (N := N) (L := L) (B := B) (by omega) h hpn
    have e : ((i : Nat) : Int) = 8 := by rw [List.length_nil] at hi; omega
    have en : nbS (nxG G n) [] p = numS (nxG G n) p := rfl
    rw [e, en]
    simp (disch := first | omega | decide) only [s32_0, s32_1, s32_2, s32_3, s32_7, s32_10, s32_11, s32_12, s32_19, s32_19b, s32_22, s32_23, s32_24, s32_27, s32_30, s32_34, Int.toNat_natCast, Int.toNat_natCast, Nat.reduceAdd, Nat.reduceMul, Int.reduceToNat, Int.reduceAdd, Int.reduceLT, Int.reduceLE, Int.reduceEq, Int.reduceNeg, Int.reduceMul, Int.reduceSub, Nat.reduceSub, reduceIte, ite_true, ite_false, and_true, true_and, and_self, c32_4 (by rfl) h208, m32_31 h33]
  | cons c l ih =>
    intro i p hi hw hc hpn
    rw [List.length_cons] at hi
    have h208 := sp208_2 (d := d) (N := N) (L := L) (B := B) (G := ug G 56 2 p) (by omega)
    have hc0 := hc c List.mem_cons_self
    have e0 := hw 0 (by rw [List.length_cons]; omega)
    obtain ⟨cn, rfl⟩ : ∃ cn : Nat, c = (cn : Int) := ⟨c.toNat, by omega⟩
    have h209 := sp209_2 (d := d) (i := i) (N := N) (L := L) (B := B) (G := ug G 56 2 p) (by omega) (by omega) (by omega) e0
    have hlt : (i : Int) < 8 := by omega
    by_cases e : nxG G n p = (cn : Int)
    · have h30 := sp30_t (d := d) (N := N) (L := L) (B := B) (by omega) h hc0.1 e
      have l1 := txt_lt (txt_of h) hc0.1 e
      have en : nbS (nxG G n) ((cn : Int) :: l) p = nbS (nxG G n) l (p + 1) := by
        unfold nbS
        rw [show wrdS (nxG G n) ((cn : Int) :: l) p = if nxG G n p = (cn : Int) then wrdS (nxG G n) l (p + 1) else (false, p) from rfl, if_pos e]
      have := ih (i + 1) (p + 1) (by omega) (fun k hk => by
        have := hw (k + 1) (by rw [List.length_cons]; omega)
        rw [show i + (k + 1) = i + 1 + k by omega] at this
        exact this) (fun c hc' => hc c (List.mem_cons_of_mem _ hc')) (by omega)
      rw [en]
      rw [s32_2]
      simp (disch := first | omega | decide) only [s32_3, s32_7, s32_10, s32_11, s32_12, s32_19, s32_19b, s32_22, s32_23, s32_24, s32_27, Int.toNat_natCast, Int.toNat_natCast, Nat.reduceAdd, Nat.reduceMul, Int.reduceToNat, Int.reduceAdd, Int.reduceLT, Int.reduceLE, Int.reduceEq, Int.reduceNeg, Int.reduceMul, Int.reduceSub, Nat.reduceSub, reduceIte, ite_true, ite_false, and_true, true_and, and_self, c32_4 (by rfl) h208, hlt, c32_13 (by rfl) h209, m32_16 h30]
      exact this
    · have h30 := sp30_f (d := d) (N := N) (L := L) (B := B) (by omega) h hc0 hpn e
      have en : nbS (nxG G n) ((cn : Int) :: l) p = (-1, p) := by
        unfold nbS
        rw [show wrdS (nxG G n) ((cn : Int) :: l) p = if nxG G n p = (cn : Int) then wrdS (nxG G n) l (p + 1) else (false, p) from rfl, if_neg e, if_neg Bool.false_ne_true]
      rw [en]
      simp (disch := first | omega | decide) only [s32_0, s32_1, s32_2, s32_3, s32_7, s32_10, s32_11, s32_12, s32_19, s32_19b, s32_22, s32_23, s32_24, s32_27, s32_30, s32_34, Int.toNat_natCast, Int.toNat_natCast, Nat.reduceAdd, Nat.reduceMul, Int.reduceToNat, Int.reduceAdd, Int.reduceLT, Int.reduceLE, Int.reduceEq, Int.reduceNeg, Int.reduceMul, Int.reduceSub, Nat.reduceSub, reduceIte, ite_true, ite_false, and_true, true_and, and_self, c32_4 (by rfl) h208, hlt, c32_13 (by rfl) h209, m32_16 h30]
theorem sp32_2 {d n p N L : Nat} {B : q_Bv} {G : q_Gi} (hd : 7 ≤ d) (h : rdr G n) (hpn : p ≤ n) : Sp d 32 [.ref 56, .ref 1012] (hp N L B (ug G 56 2 p)) (some (vI (nbS (nxG G n) wdO p).1)) (hp N L B (ug G 56 2 ((nbS (nxG G n) wdO p).2 : Nat))) := by
  refine e32 (by omega) ?_
  simp (disch := first | omega | decide) only [s32_0, s32_1, Int.toNat_natCast, Int.toNat_natCast, Nat.reduceAdd, Nat.reduceMul, Int.reduceToNat, Int.reduceAdd, Int.reduceLT, Int.reduceLE, Int.reduceEq, Int.reduceNeg, Int.reduceMul, Int.reduceSub, Nat.reduceSub, reduceIte, ite_true, ite_false, and_true, true_and, and_self]
  have hw : ∀ k, k < 8 → q_ro 1022 (0 + k) = vI (wdO.getD k 0) := by
    intro k hk
    rw [Nat.zero_add]
    have hk' : k=0∨k=1∨k=2∨k=3∨k=4∨k=5∨k=6∨k=7 := by omega
    rcases hk' with rfl|rfl|rfl|rfl|rfl|rfl|rfl|rfl <;> rfl
  exact lp32_2 (d := d - 1) (by omega) h wdO 0 p rfl hw (by decide) hpn
theorem lp32_3 {d n N L : Nat} {B : q_Bv} {G : q_Gi} (hd : 6 ≤ d) (h : rdr G n) : ∀ (l : List Int) (i p : Nat), i + l.length = 6 → (∀ k, k < l.length → q_ro 1023 (i + k) = vI (l.getD k 0)) → (∀ c, c ∈ l → 0 ≤ c ∧ c ≤ 127) → p ≤ n → WP d 32 2 [.ref 56, .ref 1013, vI i] [] (hp N L B (ug G 56 2 p)) (fun r1 X1 => r1 = some (vI (nbS (nxG G n) l p).1) ∧ X1 = hp N L B (ug G 56 2 ((nbS (nxG G n) l p).2 : Nat))) := by
  intro l
  induction l with
  | nil =>
    intro i p hi hw hc hpn
    have h208 := sp208_3 (d := d) (N := N) (L := L) (B := B) (G := ug G 56 2 p) (by omega)
    have h33 := sp33 (d := d) (N := N) (L := L) (B := B) (by omega) h hpn
    have e : ((i : Nat) : Int) = 6 := by rw [List.length_nil] at hi; omega
    have en : nbS (nxG G n) [] p = numS (nxG G n) p := rfl
    rw [e, en]
    simp (disch := first | omega | decide) only [s32_0, s32_1, s32_2, s32_3, s32_7, s32_10, s32_11, s32_12, s32_19, s32_19b, s32_22, s32_23, s32_24, s32_27, s32_30, s32_34, Int.toNat_natCast, Int.toNat_natCast, Nat.reduceAdd, Nat.reduceMul, Int.reduceToNat, Int.reduceAdd, Int.reduceLT, Int.reduceLE, Int.reduceEq, Int.reduceNeg, Int.reduceMul, Int.reduceSub, Nat.reduceSub, reduceIte, ite_true, ite_false, and_true, true_and, and_self, c32_4 (by rfl) h208, m32_31 h33]
  | cons c l ih =>
    intro i p hi hw hc hpn
    rw [List.length_cons] at hi
    have h208 := sp208_3 (d := d) (N := N) (L := L) (B := B) (G := ug G 56 2 p) (by omega)
    have hc0 := hc c List.mem_cons_self
    have e0 := hw 0 (by rw [List.length_cons]; omega)
    obtain ⟨cn, rfl⟩ : ∃ cn : Nat, c = (cn : Int) := ⟨c.toNat, by omega⟩
    have h209 := sp209_3 (d := d) (i := i) (N := N) (L := L) (B := B) (G := ug G 56 2 p) (by omega) (by omega) (by omega) e0
    have hlt : (i : Int) < 6 := by omega
    by_cases e : nxG G n p = (cn : Int)
    · have h30 := sp30_t (d := d) (N := N) (L := L) (B := B) (by omega) h hc0.1 e
      have l1 := txt_lt (txt_of h) hc0.1 e
      have en : nbS (nxG G n) ((cn : Int) :: l) p = nbS (nxG G n) l (p + 1) := by
        unfold nbS
        rw [show wrdS (nxG G n) ((cn : Int) :: l) p = if nxG G n p = (cn : Int) then wrdS (nxG G n) l (p + 1) else (false, p) from rfl, if_pos e]
      have := ih (i + 1) (p + 1) (by omega) (fun k hk => by
        have := hw (k + 1) (by rw [List.length_cons]; omega)
        rw [show i + (k + 1) = i + 1 + k by omega] at this
        exact this) (fun c hc' => hc c (List.mem_cons_of_mem _ hc')) (by omega)
      rw [en]
      rw [s32_2]
      simp (disch := first | omega | decide) only [s32_3, s32_7, s32_10, s32_11, s32_12, s32_19, s32_19b, s32_22, s32_23, s32_24, s32_27, Int.toNat_natCast, Int.toNat_natCast, Nat.reduceAdd, Nat.reduceMul, Int.reduceToNat, Int.reduceAdd, Int.reduceLT, Int.reduceLE, Int.reduceEq, Int.reduceNeg, Int.reduceMul, Int.reduceSub, Nat.reduceSub, reduceIte, ite_true, ite_false, and_true, true_and, and_self, c32_4 (by rfl) h208, hlt, c32_13 (by rfl) h209, m32_16 h30]
      exact this
    · have h30 := sp30_f (d := d) (N := N) (L := L) (B := B) (by omega) h hc0 hpn e
      have en : nbS (nxG G n) ((cn : Int) :: l) p = (-1, p) := by
        unfold nbS
        rw [show wrdS (nxG G n) ((cn : Int) :: l) p = if nxG G n p = (cn : Int) then wrdS (nxG G n) l (p + 1) else (false, p) from rfl, if_neg e, if_neg Bool.false_ne_true]
      rw [en]
      simp (disch := first | omega | decide) only [s32_0, s32_1, s32_2, s32_3, s32_7, s32_10, s32_11, s32_12, s32_19, s32_19b, s32_22, s32_23, s32_24, s32_27, s32_30, s32_34, Int.toNat_natCast, Int.toNat_natCast, Nat.reduceAdd, Nat.reduceMul, Int.reduceToNat, Int.reduceAdd, Int.reduceLT, Int.reduceLE, Int.reduceEq, Int.reduceNeg, Int.reduceMul, Int.reduceSub, Nat.reduceSub, reduceIte, ite_true, ite_false, and_true, true_and, and_self, c32_4 (by rfl) h208, hlt, c32_13 (by rfl) h209, m32_16 h30]
theorem sp32_3 {d n p N L : Nat} {B : q_Bv} {G : q_Gi} (hd : 7 ≤ d) (h : rdr G n) (hpn : p ≤ n) : Sp d 32 [.ref 56, .ref 1013] (hp N L B (ug G 56 2 p)) (some (vI (nbS (nxG G n) wdI p).1)) (hp N L B (ug G 56 2 ((nbS (nxG G n) wdI p).2 : Nat))) := by
  refine e32 (by omega) ?_
  simp (disch := first | omega | decide) only [s32_0, s32_1, Int.toNat_natCast, Int.toNat_natCast, Nat.reduceAdd, Nat.reduceMul, Int.reduceToNat, Int.reduceAdd, Int.reduceLT, Int.reduceLE, Int.reduceEq, Int.reduceNeg, Int.reduceMul, Int.reduceSub, Nat.reduceSub, reduceIte, ite_true, ite_false, and_true, true_and, and_self]
  have hw : ∀ k, k < 6 → q_ro 1023 (0 + k) = vI (wdI.getD k 0) := by
    intro k hk
    rw [Nat.zero_add]
    have hk' : k=0∨k=1∨k=2∨k=3∨k=4∨k=5 := by omega
    rcases hk' with rfl|rfl|rfl|rfl|rfl|rfl <;> rfl
  exact lp32_3 (d := d - 1) (by omega) h wdI 0 p rfl hw (by decide) hpn
/-- an upland that a text can be read into -/
def uar (u N : Nat) : Prop := mem [129, 133, 137, 141, 145, 149] u = true ∧ mem [132, 136, 140, 144, 148, 152] (u + 3) = true ∧ mem [131, 135, 139, 143, 147, 151] (u + 2) = true ∧ mem [130, 134, 138, 142, 146, 150] (u + 1) = true ∧ u + 3 < N + 129 ∧ 129 ≤ u ∧ u ≤ 149
theorem uar_of {u N : Nat} (h : mem [129, 133, 137, 141, 145, 149] u = true) (hN : u + 3 < N + 129) : uar u N := by
  have h2 : ∀ b, b ∈ [129, 133, 137, 141, 145, 149] → mem [132, 136, 140, 144, 148, 152] (b + 3) = true ∧ mem [131, 135, 139, 143, 147, 151] (b + 2) = true ∧ mem [130, 134, 138, 142, 146, 150] (b + 1) = true ∧ 129 ≤ b ∧ b ≤ 149 := by decide
  have h3 := h2 u (mem_of h)
  exact ⟨h, h3.1, h3.2.1, h3.2.2.1, hN, h3.2.2.2.1, h3.2.2.2.2⟩
/-- the steps that lie -/
def stp (B : q_Bv) (u : Nat) (l : List Int) : Prop := B u 6 = .ref (u + 3) ∧ B u 5 = vI (l.length : Int) ∧ ∀ k, k < l.length → B (u + 3) k = vI (l.getD k 0)
/-- all but the steps stays -/
def fru (B B' : q_Bv) (u : Nat) : Prop := ∀ a k, ¬ (a = u ∧ k = 5) → a ≠ u + 3 → B' a k = B a k
theorem fru_r (B : q_Bv) (u : Nat) : fru B B u := fun _ _ _ _ => rfl
theorem fru_t {B B' B'' : q_Bv} {u : Nat} (h1 : fru B B' u) (h2 : fru B' B'' u) : fru B B'' u := fun a k x y => (h2 a k x y).trans (h1 a k x y)
theorem getD_l {l : List Int} {r : List Int} {k : Nat} (h : k < l.length) : (l ++ r).getD k 0 = l.getD k 0 := by
  rw [List.getD_eq_getElem?_getD, List.getD_eq_getElem?_getD, List.getElem?_append_left h]
theorem getD_e {l : List Int} {x : Int} : (l ++ [x]).getD l.length 0 = x := by
  rw [List.getD_eq_getElem?_getD, List.getElem?_append_right (Nat.le_refl _), Nat.sub_self]; rfl
theorem sp47 {d u N L : Nat} {x : Int} {l : List Int} {B : q_Bv} {G : q_Gi} (hd : 1 ≤ d) (hu : uar u N) (h : stp B u l) (hl : l.length < 100) : ∃ B', Sp d 47 [.ref u, vI x] (hp N L B G) none (hp N L B' G) ∧ stp B' u (l ++ [x]) ∧ fru B B' u := by
  obtain ⟨u1, u2, u3, u4, u5, u6, u7⟩ := hu
  obtain ⟨h6, h5, hs⟩ := h
  have hl2 : (l.length : Int) < 100 := by omega
  refine ⟨up (up B (u + 3) l.length (vI x)) u 5 (vI ((l.length : Int) + 1)), ?_, ⟨?_, ?_, ?_⟩, ?_⟩
  · refine e47 (by omega) ?_
    simp (disch := first | omega | assumption) only [s47_0, m47_1, s47_4, m47_5, m47_8, s47_9, s47_12, m47_13, s47_16, m47_17, s47_20, m47_21, s47_22, s47_23, m47_24, s47_27, s47_28, m47_29, s47_32, Int.toNat_natCast, Int.toNat_natCast, Nat.reduceAdd, Nat.reduceMul, Int.reduceToNat, Int.reduceAdd, Int.reduceLT, Int.reduceLE, Int.reduceEq, Int.reduceNeg, Int.reduceMul, Int.reduceSub, Nat.reduceSub, reduceIte, ite_true, ite_false, and_true, true_and, and_self, h5, h6, hl2, up_ne]
  · rw [up_k (by omega), up_ne (by omega)]; exact h6
  · rw [up_at, List.length_append]; rfl
  · intro k hk
    rw [List.length_append, List.length_cons, List.length_nil] at hk
    rw [up_ne (by omega)]
    by_cases e : k = l.length
    · rw [e, up_at, getD_e]
    · rw [up_k e, getD_l (by omega)]; exact hs k (by omega)
  · intro a k h1 h2
    rw [up_b, if_neg h1, up_ne h2]
theorem sp48 {d u N L : Nat} {x y z : Int} {l : List Int} {B : q_Bv} {G : q_Gi} (hd : 2 ≤ d) (hu : uar u N) (h : stp B u l) (hl : l.length < 100) : ∃ B', Sp d 48 [.ref u, vI x, vI y, vI z] (hp N L B G) none (hp N L B' G) ∧ stp B' u (l ++ [x * 1000 + y * 100 + z]) ∧ fru B B' u := by
  obtain ⟨B', h47, h2, h3⟩ := sp47 (d := d - 1) (L := L) (x := x * 1000 + y * 100 + z) (G := G) (by omega) hu h hl
  refine ⟨B', ?_, h2, h3⟩
  obtain ⟨u1, u2, u3, u4, u5, u6, u7⟩ := hu
  refine e48 (by omega) ?_
  have hu1 : u ≠ 1004 := by omega
  simp (disch := first | omega | assumption) only [s48_0, s48_1, s48_2, s48_5, s48_6, s48_7, s48_9, s48_10, s48_11, s48_12, s48_16, Int.toNat_natCast, Int.toNat_natCast, Nat.reduceAdd, Nat.reduceMul, Int.reduceToNat, Int.reduceAdd, Int.reduceLT, Int.reduceLE, Int.reduceEq, Int.reduceNeg, Int.reduceMul, Int.reduceSub, Nat.reduceSub, reduceIte, ite_true, ite_false, and_true, true_and, and_self, m48_13 u1 (by omega) h47]
