/-! reading a text: what is read, where it ends -/
def digS (c : Int) : Bool := decide (48 ≤ c) && decide (c ≤ 57)
def numS (nx : Nat → Int) (p : Nat) : Int × Nat := if digS (nx p) = true then (if digS (nx (p + 1)) = true then ((nx p - 48) * 10 + (nx (p + 1) - 48), p + 2) else (nx p - 48, p + 1)) else (-1, p)
def liS (c : Int) : Int := if c = 98 then 0 else if c = 102 then 1 else if c = 107 then 2 else if c = 118 then 3 else if c = 104 then 4 else if c = 100 then 5 else -1
def siS (c : Int) : Int := if c = 60 then 0 else if c = 61 then 1 else if c = 62 then 2 else -1
def tstS (nx : Nat → Int) (p : Nat) : Bool × Nat × List Int := if liS (nx p) < 0 then (false, p, []) else if siS (nx (p + 1)) < 0 then (false, p + 1, []) else if (numS nx (p + 2)).1 < 0 then (false, (numS nx (p + 2)).2, []) else (true, (numS nx (p + 2)).2, [liS (nx p) * 1000 + siS (nx (p + 1)) * 100 + (numS nx (p + 2)).1])
def chnS (nx : Nat → Int) (f : Nat → Bool × Nat × List Int) (c op : Int) : Nat → Bool × Nat × List Int → Bool × Nat × List Int
  | 0, r => r
  | k + 1, r => if r.1 = true ∧ nx r.2.1 = c then chnS nx f c op k ((f (r.2.1 + 1)).1, (f (r.2.1 + 1)).2.1, r.2.2 ++ ((f (r.2.1 + 1)).2.2 ++ [op])) else r
def botS (nx : Nat → Int) (f : Nat → Bool × Nat × List Int) (p : Nat) : Bool × Nat × List Int := chnS nx f 38 (-1) 100 (f p)
def eitS (nx : Nat → Int) (f : Nat → Bool × Nat × List Int) (p : Nat) : Bool × Nat × List Int := chnS nx (botS nx f) 124 (-2) 100 (botS nx f p)
def parS (nx : Nat → Int) (q : Bool × Nat × List Int) : Bool × Nat × List Int := if q.1 = true then (if nx q.2.1 = 41 then (true, q.2.1 + 1, q.2.2) else (false, q.2.1, q.2.2)) else q
def oneS (nx : Nat → Int) : Nat → Nat → Bool × Nat × List Int
  | 0, p => tstS nx p
  | m + 1, p => if nx p = 33 then ((oneS nx m (p + 1)).1, (oneS nx m (p + 1)).2.1, (oneS nx m (p + 1)).2.2 ++ [-3]) else if nx p = 40 then parS nx (eitS nx (oneS nx m) (p + 1)) else tstS nx p
/-- a text of n bytes -/
def txt (nx : Nat → Int) (n : Nat) : Prop := (∀ p, n ≤ p → nx p = -1) ∧ (∀ p, p < n → 0 ≤ nx p ∧ nx p ≤ 127)
theorem txt_lt {nx : Nat → Int} {n p : Nat} {c : Int} (h : txt nx n) (hc : 0 ≤ c) (e : nx p = c) : p < n := by
  by_cases l : p < n
  · exact l
  · have := h.1 p (by omega); omega
theorem digS_e {c : Int} : digS c = true ↔ 48 ≤ c ∧ c ≤ 57 := by unfold digS; simp
theorem liS_r {c : Int} : -1 ≤ liS c ∧ liS c ≤ 5 := by unfold liS; repeat' split; all_goals omega
theorem siS_r {c : Int} : -1 ≤ siS c ∧ siS c ≤ 2 := by unfold siS; repeat' split; all_goals omega
theorem liS_0 {c : Int} (h : 0 ≤ liS c) : 98 ≤ c := by
  unfold liS at h
  repeat' split at h
  all_goals omega
theorem siS_0 {c : Int} (h : 0 ≤ siS c) : 60 ≤ c := by
  unfold siS at h
  repeat' split at h
  all_goals omega
/-- what a reader of a piece keeps -/
def gdS (n : Nat) (f : Nat → Bool × Nat × List Int) : Prop := ∀ p, p ≤ n → p + (f p).2.2.length ≤ (f p).2.1 ∧ (f p).2.1 ≤ n
theorem num_g {nx : Nat → Int} {n p : Nat} (h : txt nx n) (hp : p ≤ n) : p ≤ (numS nx p).2 ∧ (numS nx p).2 ≤ n ∧ (-1 ≤ (numS nx p).1 ∧ (numS nx p).1 ≤ 99) ∧ (0 ≤ (numS nx p).1 → p + 1 ≤ (numS nx p).2) := by
  unfold numS
  by_cases c1 : digS (nx p) = true
  · have d1 := digS_e.mp c1
    have l1 : p < n := txt_lt h (c := nx p) (by omega) rfl
    by_cases c2 : digS (nx (p + 1)) = true
    · have d2 := digS_e.mp c2
      have l2 : p + 1 < n := txt_lt h (c := nx (p + 1)) (by omega) rfl
      rw [if_pos c1, if_pos c2]
      refine ⟨by simp, by simp; omega, by simp; omega, by simp⟩
    · rw [if_pos c1, if_neg c2]
      refine ⟨by simp, by simp; omega, by simp; omega, by simp⟩
  · rw [if_neg c1]
    refine ⟨by simp, by simp; omega, by simp, by simp⟩
theorem tst_g {nx : Nat → Int} {n : Nat} (h : txt nx n) : gdS n (tstS nx) := by
  intro p hp
  unfold tstS
  by_cases c1 : liS (nx p) < 0
  · rw [if_pos c1]; simp; omega
  · have l1 : p < n := txt_lt h (c := nx p) (by have := liS_0 (c := nx p) (by omega); omega) rfl
    rw [if_neg c1]
    by_cases c2 : siS (nx (p + 1)) < 0
    · rw [if_pos c2]; simp; omega
    · have l2 : p + 1 < n := txt_lt h (c := nx (p + 1)) (by have := siS_0 (c := nx (p + 1)) (by omega); omega) rfl
      rw [if_neg c2]
      have h3 := num_g (p := p + 2) h (by omega)
      by_cases c3 : (numS nx (p + 2)).1 < 0
      · rw [if_pos c3]; simp; omega
      · rw [if_neg c3]; simp; omega
theorem chn_g {nx : Nat → Int} {n : Nat} {f : Nat → Bool × Nat × List Int} {c op : Int} (h : txt nx n) (hf : gdS n f) (hc : 0 ≤ c) : ∀ (k p : Nat) (r : Bool × Nat × List Int), p + r.2.2.length ≤ r.2.1 → r.2.1 ≤ n → p + (chnS nx f c op k r).2.2.length ≤ (chnS nx f c op k r).2.1 ∧ (chnS nx f c op k r).2.1 ≤ n := by
  intro k
  induction k with
  | zero => intro p r h1 h2; exact ⟨h1, h2⟩
  | succ k ih =>
    intro p r h1 h2
    unfold chnS
    by_cases cc : r.1 = true ∧ nx r.2.1 = c
    · rw [if_pos cc]
      have l := txt_lt h hc cc.2
      have hf' := hf (r.2.1 + 1) (by omega)
      refine ih p _ ?_ hf'.2
      simp only [List.length_append, List.length_cons, List.length_nil]
      omega
    · rw [if_neg cc]; exact ⟨h1, h2⟩
theorem bot_g {nx : Nat → Int} {n : Nat} {f : Nat → Bool × Nat × List Int} (h : txt nx n) (hf : gdS n f) : gdS n (botS nx f) := fun p hp => chn_g h hf (by decide) 100 p _ (hf p hp).1 (hf p hp).2
theorem eit_g {nx : Nat → Int} {n : Nat} {f : Nat → Bool × Nat × List Int} (h : txt nx n) (hf : gdS n f) : gdS n (eitS nx f) := fun p hp => chn_g h (bot_g h hf) (by decide) 100 p _ (bot_g h hf p hp).1 (bot_g h hf p hp).2
theorem one_g {nx : Nat → Int} {n : Nat} (h : txt nx n) : ∀ m, gdS n (oneS nx m) := by
  intro m
  induction m with
  | zero => exact tst_g h
  | succ m ih =>
    intro p hp
    unfold oneS
    by_cases c1 : nx p = 33
    · rw [if_pos c1]
      have l := txt_lt h (by decide) c1
      have := ih (p + 1) (by omega)
      simp only [List.length_append, List.length_cons, List.length_nil]
      omega
    · rw [if_neg c1]
      by_cases c2 : nx p = 40
      · rw [if_pos c2]
        have l := txt_lt h (by decide) c2
        have := eit_g h ih (p + 1) (by omega)
        unfold parS
        by_cases c3 : (eitS nx (oneS nx m) (p + 1)).1 = true
        · rw [if_pos c3]
          by_cases c4 : nx (eitS nx (oneS nx m) (p + 1)).2.1 = 41
          · rw [if_pos c4]
            have := txt_lt h (by decide) c4
            simp only []
            omega
          · rw [if_neg c4]; simp only []; omega
        · rw [if_neg c3]; omega
      · rw [if_neg c2]; exact tst_g h p hp
/-- what is read well goes from k bits on the stack to one more -/
def okF (b : Nat) (f : Nat → Bool × Nat × List Int) : Prop := ∀ p k r, (f p).1 = true → k ≤ b → okS r (k + 1) → okS ((f p).2.2 ++ r) k
theorem tst_ok {nx : Nat → Int} {n : Nat} (h : txt nx n) : okF 20 (tstS nx) := by
  intro p k r ht hk hr
  unfold tstS at ht ⊢
  by_cases c1 : liS (nx p) < 0
  · rw [if_pos c1] at ht; exact absurd ht Bool.false_ne_true
  rw [if_neg c1] at ht ⊢
  by_cases c2 : siS (nx (p + 1)) < 0
  · rw [if_pos c2] at ht; exact absurd ht Bool.false_ne_true
  rw [if_neg c2] at ht ⊢
  by_cases c3 : (numS nx (p + 2)).1 < 0
  · rw [if_pos c3] at ht; exact absurd ht Bool.false_ne_true
  rw [if_neg c3]
  have l2 : p + 1 < n := txt_lt h (c := nx (p + 1)) (by have := siS_0 (c := nx (p + 1)) (by omega); omega) rfl
  have h1 := liS_r (c := nx p)
  have h2 := siS_r (c := nx (p + 1))
  have h3 := (num_g (p := p + 2) h (by omega)).2.2.1
  refine Or.inr (Or.inr ⟨⟨?_, ?_⟩, hk, hr⟩) <;> omega
theorem chn_ok {nx : Nat → Int} {f : Nat → Bool × Nat × List Int} {c op : Int} {b : Nat} (ho : op = -1 ∨ op = -2) (hf : okF (b + 1) f) : ∀ (j : Nat) (q : Bool × Nat × List Int) (k : Nat), k ≤ b → (q.1 = true → ∀ r, okS r (k + 1) → okS (q.2.2 ++ r) k) → (chnS nx f c op j q).1 = true → ∀ r, okS r (k + 1) → okS ((chnS nx f c op j q).2.2 ++ r) k := by
  intro j
  induction j with
  | zero => intro q k hk hq ht r hr; exact hq ht r hr
  | succ j ih =>
    intro q k hk hq ht r hr
    unfold chnS at ht ⊢
    by_cases cc : q.1 = true ∧ nx q.2.1 = c
    · rw [if_pos cc] at ht ⊢
      refine ih _ k hk ?_ ht r hr
      intro hf1 r hr
      change okS (q.2.2 ++ ((f (q.2.1 + 1)).2.2 ++ [op]) ++ r) k
      rw [List.append_assoc, List.append_assoc]
      refine hq cc.1 _ (hf _ (k + 1) _ hf1 (by omega) ?_)
      exact Or.inr (Or.inl ⟨ho, by omega, hr⟩)
    · rw [if_neg cc] at ht ⊢
      exact hq ht r hr
theorem bot_ok {nx : Nat → Int} {f : Nat → Bool × Nat × List Int} {b : Nat} (hf : okF (b + 1) f) : okF b (botS nx f) := fun p k r ht hk hr => chn_ok (Or.inl rfl) hf 100 (f p) k hk (fun h r hr => hf p k r h (by omega) hr) ht r hr
theorem eit_ok {nx : Nat → Int} {f : Nat → Bool × Nat × List Int} {b : Nat} (hf : okF (b + 2) f) : okF b (eitS nx f) := fun p k r ht hk hr => chn_ok (Or.inr rfl) (bot_ok hf) 100 (botS nx f p) k hk (fun h r hr => bot_ok hf p k r h (by omega) hr) ht r hr
theorem one_ok {nx : Nat → Int} {n : Nat} (h : txt nx n) : ∀ m b, b + 2 * m = 20 → okF b (oneS nx m) := by
  intro m
  induction m with
  | zero => intro b hb; rw [show b = 20 by omega]; exact tst_ok h
  | succ m ih =>
    intro b hb p k r ht hk hr
    have ih' := ih (b + 2) (by omega)
    unfold oneS at ht ⊢
    by_cases c1 : nx p = 33
    · rw [if_pos c1] at ht ⊢
      change okS ((oneS nx m (p + 1)).2.2 ++ [-3] ++ r) k
      rw [List.append_assoc]
      refine ih' (p + 1) k _ ht (by omega) ?_
      exact Or.inl ⟨rfl, by omega, hr⟩
    rw [if_neg c1] at ht ⊢
    by_cases c2 : nx p = 40
    · rw [if_pos c2] at ht ⊢
      unfold parS at ht ⊢
      by_cases c3 : (eitS nx (oneS nx m) (p + 1)).1 = true
      · rw [if_pos c3] at ht ⊢
        by_cases c4 : nx (eitS nx (oneS nx m) (p + 1)).2.1 = 41
        · rw [if_pos c4]
          exact eit_ok ih' (p + 1) k r c3 hk hr
        · rw [if_neg c4] at ht; exact absurd ht Bool.false_ne_true
      · rw [if_neg c3] at ht; exact absurd ht c3
    · rw [if_neg c2] at ht ⊢
      exact tst_ok h p k r ht (by omega) hr
