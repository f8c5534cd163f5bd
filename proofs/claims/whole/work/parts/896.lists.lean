/-! MEALS by numbers -/
def Dg : Nat → List (List Nat)
  | 0 => [[]]
  | e + 1 => (List.range' 0 5).flatMap (fun n => (Dg e).map (fun ds => n :: ds))
theorem Dg_4 : Dg 4 = (List.range' 0 625).map dgN := by decide +kernel
def sumL : List Nat → Nat
  | [] => 0
  | n :: l => n + sumL l
def okD (s : Nat → Nat) : Nat → Nat → List Nat → Bool
  | e + 1, left, n :: ds => decide (n ≤ left) && decide (n ≤ s (3 - e)) && okD s e (left - n) ds
  | _, _, _ => true
def fiD (fe : Nat → Int → Int) : Nat → List Nat → Int → Int
  | e + 1, n :: ds, x => fiD fe e ds (itI (fe (3 - e)) n x)
  | _, _, x => x
def pkD (s : Nat → Nat) (fe : Nat → Int → Int) (e left : Nat) (x : Int) (pre ds : List Nat) : Option (Nat × Int × List Nat) := if okD s e left ds = true then some (4 - (left - sumL ds), fiD fe e ds x, pre ++ ds) else none
theorem fM_app {α β : Type} (h : α → Option β) : ∀ (l1 l2 : List α), (l1 ++ l2).filterMap h = l1.filterMap h ++ l2.filterMap h
  | [], l2 => rfl
  | a :: l1, l2 => by
    rw [List.cons_append, List.filterMap_cons, List.filterMap_cons, fM_app h l1 l2]
    cases h a <;> rfl
theorem fM_map {α β γ : Type} (g : α → β) (h : β → Option γ) : ∀ l : List α, (l.map g).filterMap h = l.filterMap (fun a => h (g a))
  | [] => rfl
  | a :: l => by
    rw [List.map_cons, List.filterMap_cons, List.filterMap_cons, fM_map g h l]
theorem fM_flat {α β γ : Type} (F : α → List β) (h : β → Option γ) : ∀ l : List α, (l.flatMap F).filterMap h = l.flatMap (fun a => (F a).filterMap h)
  | [] => rfl
  | a :: l => by
    rw [List.flatMap_cons, List.flatMap_cons, fM_app, fM_flat F h l]
theorem fM_none {α β : Type} (h : α → Option β) : ∀ l : List α, (∀ a, a ∈ l → h a = none) → l.filterMap h = []
  | [], _ => rfl
  | a :: l, hn => by
    rw [List.filterMap_cons, hn a List.mem_cons_self]
    exact fM_none h l (fun b hb => hn b (List.mem_cons_of_mem _ hb))
theorem fM_congr {α β : Type} (h g : α → Option β) : ∀ l : List α, (∀ a, a ∈ l → h a = g a) → l.filterMap h = l.filterMap g
  | [], _ => rfl
  | a :: l, hn => by
    rw [List.filterMap_cons, List.filterMap_cons, hn a List.mem_cons_self, fM_congr h g l (fun b hb => hn b (List.mem_cons_of_mem _ hb))]
theorem flat_congr {α β : Type} (F G : α → List β) : ∀ l : List α, (∀ a, a ∈ l → F a = G a) → l.flatMap F = l.flatMap G
  | [], _ => rfl
  | a :: l, hn => by
    rw [List.flatMap_cons, List.flatMap_cons, hn a List.mem_cons_self, flat_congr F G l (fun b hb => hn b (List.mem_cons_of_mem _ hb))]
theorem flat_nil {α β : Type} (F : α → List β) : ∀ l : List α, (∀ a, a ∈ l → F a = []) → l.flatMap F = []
  | [], _ => rfl
  | a :: l, hn => by
    rw [List.flatMap_cons, hn a List.mem_cons_self, flat_nil F l (fun b hb => hn b (List.mem_cons_of_mem _ hb))]; rfl
theorem meals_D {s : Nat → Nat} {fe : Nat → Int → Int} : ∀ (e left : Nat) (x : Int) (pre : List Nat), left ≤ 4 → mealsL s fe e left x pre = (Dg e).filterMap (pkD s fe e left x pre) := by
  intro e
  induction e with
  | zero =>
    intro left x pre hl
    show [(4 - left, x, pre)] = [[]].filterMap (pkD s fe 0 left x pre)
    rw [List.filterMap_cons]
    show _ = match (some (4 - (left - 0), x, pre ++ []) : Option (Nat × Int × List Nat)) with
      | none => [].filterMap (pkD s fe 0 left x pre)
      | some b => b :: [].filterMap (pkD s fe 0 left x pre)
    rw [List.append_nil, Nat.sub_zero]
    rfl
  | succ e ih =>
    intro left x pre hl
    have e1 : mealsL s fe (e + 1) left x pre = (List.range' 0 (min left (s (3 - e)) + 1)).flatMap (fun n => mealsL s fe e (left - n) (itI (fe (3 - e)) n x) (pre ++ [n])) := rfl
    have e2 : Dg (e + 1) = (List.range' 0 5).flatMap (fun n => (Dg e).map (fun ds => n :: ds)) := rfl
    rw [e1, e2, fM_flat]
    have hsp : List.range' 0 5 = List.range' 0 (min left (s (3 - e)) + 1) ++ List.range' (min left (s (3 - e)) + 1) (4 - min left (s (3 - e))) := by
      have := @List.range'_append 0 (min left (s (3 - e)) + 1) (4 - min left (s (3 - e))) 1
      rw [Nat.one_mul, Nat.zero_add] at this
      rw [this]
      congr 1
      omega
    rw [hsp, List.flatMap_append]
    have hz : (List.range' (min left (s (3 - e)) + 1) (4 - min left (s (3 - e)))).flatMap (fun n => ((Dg e).map (fun ds => n :: ds)).filterMap (pkD s fe (e + 1) left x pre)) = [] := by
      refine flat_nil _ _ (fun n hn => ?_)
      rw [List.mem_range'_1] at hn
      rw [fM_map]
      refine fM_none _ _ (fun ds _ => ?_)
      unfold pkD
      rw [if_neg]
      intro hk
      have hk2 : (decide (n ≤ left) && decide (n ≤ s (3 - e)) && okD s e (left - n) ds) = true := hk
      simp only [Bool.and_eq_true, decide_eq_true_eq] at hk2
      omega
    rw [hz, List.append_nil]
    refine flat_congr _ _ _ (fun n hn => ?_)
    rw [List.mem_range'_1] at hn
    rw [ih (left - n) _ _ (by omega), fM_map]
    refine fM_congr _ _ _ (fun ds _ => ?_)
    unfold pkD
    have hk2 : okD s (e + 1) left (n :: ds) = okD s e (left - n) ds := by
      show (decide (n ≤ left) && decide (n ≤ s (3 - e)) && okD s e (left - n) ds) = _
      rw [decide_eq_true (by omega), decide_eq_true (by omega)]
      rfl
    rw [hk2]
    have hs : 4 - (left - sumL (n :: ds)) = 4 - (left - n - sumL ds) := by
      show 4 - (left - (n + sumL ds)) = _
      omega
    rw [hs, List.append_assoc]
    rfl
theorem foldl_fM {α β γ : Type} (h : α → Option β) (g : γ → β → γ) : ∀ (l : List α) (i : γ), (l.filterMap h).foldl g i = l.foldl (fun a x => match h x with | some y => g a y | none => a) i
  | [], _ => rfl
  | a :: l, i => by
    rw [List.filterMap_cons, List.foldl_cons]
    cases h a with
    | none => exact foldl_fM h g l i
    | some y => exact foldl_fM h g l (g i y)
theorem foldl_mp {α β γ : Type} (h : α → β) (g : γ → β → γ) : ∀ (l : List α) (i : γ), (l.map h).foldl g i = l.foldl (fun a x => g a (h x)) i
  | [], _ => rfl
  | a :: l, i => by
    rw [List.map_cons, List.foldl_cons, List.foldl_cons]
    exact foldl_mp h g l _
/-- the MEALS by numbers, gone through -/
def numF (s : Nat → Nat) (fe : Nat → Int → Int) (tn : Int → Bool) (so x : Int) (l : List Nat) (st : Int × Int × List Nat) : Int × Int × List Nat := l.foldl (fun st m => if okN s m = true then wghS tn so st (suN m, fiN fe m x, dgN m) else st) st
theorem meals_N {s : Nat → Nat} {fe : Nat → Int → Int} {tn : Int → Bool} {so x : Int} {st : Int × Int × List Nat} : (mealsL s fe 4 4 x []).foldl (wghS tn so) st = numF s fe tn so x (List.range' 0 625) st := by
  rw [meals_D 4 4 x [] (by decide), Dg_4, foldl_fM, foldl_mp]
  unfold numF
  congr 1
  funext a m
  have hok : okD s 4 4 (dgN m) = okN s m := by
    show (decide (m / 5 / 5 / 5 % 5 ≤ 4) && decide (m / 5 / 5 / 5 % 5 ≤ s 0) && (decide (m / 5 / 5 % 5 ≤ 4 - m / 5 / 5 / 5 % 5) && decide (m / 5 / 5 % 5 ≤ s 1) && (decide (m / 5 % 5 ≤ 4 - m / 5 / 5 / 5 % 5 - m / 5 / 5 % 5) && decide (m / 5 % 5 ≤ s 2) && (decide (m % 5 ≤ 4 - m / 5 / 5 / 5 % 5 - m / 5 / 5 % 5 - m / 5 % 5) && decide (m % 5 ≤ s 3) && true)))) = okN s m
    unfold okN
    rw [Bool.eq_iff_iff]
    simp only [Bool.and_eq_true, decide_eq_true_eq, and_true]
    generalize m / 5 / 5 / 5 % 5 = d0
    generalize m / 5 / 5 % 5 = d1
    generalize m / 5 % 5 = d2
    generalize m % 5 = d3
    omega
  have hfi : fiD fe 4 (dgN m) x = fiN fe m x := rfl
  unfold pkD
  rw [hok, hfi]
  by_cases c : okN s m = true
  · rw [if_pos c, if_pos c]
    have hs : 4 - (4 - sumL (dgN m)) = suN m := by
      have := (okN_iff.mp c).2.2.2.2
      show 4 - (4 - (m / 5 / 5 / 5 % 5 + (m / 5 / 5 % 5 + (m / 5 % 5 + (m % 5 + 0))))) = suN m
      unfold suN
      omega
    rw [hs]
    rfl
  · rw [if_neg c, if_neg c]
/-- the least of them, gone through from the last on -/
def dscN (gd : Nat → Bool) (cn : Nat → Nat) : List Nat → Int × Int
  | [] => (-1, 5)
  | m :: l => if gd m = true ∧ (cn m : Int) < (dscN gd cn l).2 then ((m : Int), (cn m : Int)) else dscN gd cn l
theorem dsc_r {gd : Nat → Bool} {cn : Nat → Nat} (hc : ∀ m, gd m = true → cn m ≤ 4) : ∀ l : List Nat, ((dscN gd cn l).1 = -1 ∧ (dscN gd cn l).2 = 5) ∨ ∃ m : Nat, m ∈ l ∧ (dscN gd cn l).1 = (m : Int) ∧ (dscN gd cn l).2 = (cn m : Int) ∧ gd m = true
  | [] => Or.inl ⟨rfl, rfl⟩
  | m :: l => by
    unfold dscN
    by_cases c : gd m = true ∧ (cn m : Int) < (dscN gd cn l).2
    · rw [if_pos c]; exact Or.inr ⟨m, List.mem_cons_self, rfl, rfl, c.1⟩
    · rw [if_neg c]
      rcases dsc_r hc l with h | ⟨k, h1, h2⟩
      · exact Or.inl h
      · exact Or.inr ⟨k, List.mem_cons_of_mem _ h1, h2⟩
/-- the way on: the last of the least -/
def ascN (gd : Nat → Bool) (cn : Nat → Nat) (dg : Nat → List Nat) (l : List Nat) (st : Int × List Nat) : Int × List Nat := l.foldl (fun st m => if gd m = true ∧ (st.1 < 0 ∨ (cn m : Int) ≤ st.1) then ((cn m : Int), dg m) else st) st
theorem asc_dsc {gd : Nat → Bool} {cn : Nat → Nat} {dg : Nat → List Nat} (hc : ∀ m, gd m = true → cn m ≤ 4) : ∀ (l : List Nat) (st : Int × List Nat), ascN gd cn dg l st = if (dscN gd cn l).1 < 0 then st else if st.1 < 0 ∨ (dscN gd cn l).2 ≤ st.1 then ((dscN gd cn l).2, dg (dscN gd cn l).1.toNat) else st := by
  intro l
  induction l with
  | nil => intro st; rfl
  | cons m l ih =>
    intro st
    have e1 : ascN gd cn dg (m :: l) st = ascN gd cn dg l (if gd m = true ∧ (st.1 < 0 ∨ (cn m : Int) ≤ st.1) then ((cn m : Int), dg m) else st) := rfl
    have e2 : dscN gd cn (m :: l) = if gd m = true ∧ (cn m : Int) < (dscN gd cn l).2 then ((m : Int), (cn m : Int)) else dscN gd cn l := rfl
    rw [e1, e2, ih]
    have hr := dsc_r hc l
    generalize dscN gd cn l = r at hr ⊢
    have hlt : ∀ z : Nat, ¬ ((z : Int), (cn m : Int)).1 < 0 := fun z => by simp only []; omega
    by_cases cg : gd m = true
    · have h4 := hc m cg
      by_cases cs : st.1 < 0 ∨ (cn m : Int) ≤ st.1
      · have A : gd m = true ∧ (st.1 < 0 ∨ (cn m : Int) ≤ st.1) := ⟨cg, cs⟩
        rw [if_pos A]
        rcases hr with ⟨h1, h2⟩ | ⟨k, h1, h2, h3, h5⟩
        · have K : gd m = true ∧ (cn m : Int) < r.2 := ⟨cg, by omega⟩
          rw [if_pos (show r.1 < 0 by omega), if_pos K, if_neg (hlt m), if_pos cs, Int.toNat_natCast]
        · rw [if_neg (show ¬ r.1 < 0 by omega)]
          by_cases ck : (cn m : Int) < r.2
          · have K : gd m = true ∧ (cn m : Int) < r.2 := ⟨cg, ck⟩
            have B : ¬ (((cn m : Int), dg m).1 < 0 ∨ r.2 ≤ ((cn m : Int), dg m).1) := by simp only []; omega
            rw [if_neg B, if_pos K, if_neg (hlt m), if_pos cs, Int.toNat_natCast]
          · have K : ¬ (gd m = true ∧ (cn m : Int) < r.2) := fun h => ck h.2
            have B : ((cn m : Int), dg m).1 < 0 ∨ r.2 ≤ ((cn m : Int), dg m).1 := by simp only []; omega
            have C : st.1 < 0 ∨ r.2 ≤ st.1 := by omega
            rw [if_pos B, if_neg K, if_neg (show ¬ r.1 < 0 by omega), if_pos C]
      · have A : ¬ (gd m = true ∧ (st.1 < 0 ∨ (cn m : Int) ≤ st.1)) := fun h => cs h.2
        rw [if_neg A]
        rcases hr with ⟨h1, h2⟩ | ⟨k, h1, h2, h3, h5⟩
        · have K : gd m = true ∧ (cn m : Int) < r.2 := ⟨cg, by omega⟩
          rw [if_pos (show r.1 < 0 by omega), if_pos K, if_neg (hlt m), if_neg cs]
        · rw [if_neg (show ¬ r.1 < 0 by omega)]
          by_cases ck : (cn m : Int) < r.2
          · have K : gd m = true ∧ (cn m : Int) < r.2 := ⟨cg, ck⟩
            have C : ¬ (st.1 < 0 ∨ r.2 ≤ st.1) := by omega
            rw [if_neg C, if_pos K, if_neg (hlt m), if_neg cs]
          · have K : ¬ (gd m = true ∧ (cn m : Int) < r.2) := fun h => ck h.2
            rw [if_neg K, if_neg (show ¬ r.1 < 0 by omega)]
    · have A : ¬ (gd m = true ∧ (st.1 < 0 ∨ (cn m : Int) ≤ st.1)) := fun h => cg h.1
      have K : ¬ (gd m = true ∧ (cn m : Int) < r.2) := fun h => cg h.1
      rw [if_neg A, if_neg K]
