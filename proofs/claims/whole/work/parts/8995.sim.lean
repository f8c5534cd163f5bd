/-! a stack for what is open, against reading piece by piece -/
def opn : List Int → Nat
  | [] => 0
  | c :: W => if c = 33 ∨ c = 40 then opn W + 1 else opn W
def popN : List Int → List Int
  | [] => []
  | c :: W => if c = 33 then popN W else c :: W
def nots : List Int → List Int
  | [] => []
  | c :: W => if c = 33 then -3 :: nots W else []
def stl3 : List Int → List Int → List Int × List Int
  | [], T => ([], T)
  | c :: W, T => if c = 38 then stl3 W (T ++ [-1]) else (c :: W, T)
def stlO : List Int → List Int → List Int × List Int
  | [], T => ([], T)
  | c :: W, T => if c = 38 then stlO W (T ++ [-1]) else if c = 124 then stlO W (T ++ [-2]) else (c :: W, T)
def runE (nx : Nat → Int) : Nat → Nat → Bool → List Int → List Int → Option (Bool × Nat × List Int)
  | 0, _, _, _, _ => none
  | k + 1, p, true, W, T => if nx p = 33 ∨ nx p = 40 then (if opn W = 4 then some (false, p, []) else runE nx k (p + 1) true (nx p :: W) T) else if (tstS nx p).1 = true then runE nx k (tstS nx p).2.1 false (popN W) (T ++ ((tstS nx p).2.2 ++ nots W)) else some (false, (tstS nx p).2.1, [])
  | k + 1, p, false, W, T => if nx p = 38 then runE nx k (p + 1) true (38 :: (stl3 W T).1) (stl3 W T).2 else if nx p = 124 then runE nx k (p + 1) true (124 :: (stlO W T).1) (stlO W T).2 else match (stlO W T).1 with
    | [] => some (true, p, (stlO W T).2)
    | _ :: r => if nx p = 41 then runE nx k (p + 1) false (popN r) ((stlO W T).2 ++ nots r) else some (false, p, [])
def hltE (nx : Nat → Int) (p : Nat) (w : Bool) (W T : List Int) (r : Bool × Nat × List Int) : Prop := ∃ k, runE nx k p w W T = some r
/-- neither '&', nor '!' lies on top -/
def topT (W : List Int) : Prop := popN W = W ∧ ∀ T, stl3 W T = (W, T)
def topE (W : List Int) : Prop := popN W = W ∧ ∀ T, stlO W T = (W, T)
theorem topT_E {W : List Int} (h : topE W) : topT W := by
  refine ⟨h.1, fun T => ?_⟩
  cases W with
  | nil => rfl
  | cons c W =>
    have := h.2 T
    unfold stlO at this
    unfold stl3
    by_cases c1 : c = 38
    · rw [if_pos c1] at this
      exfalso
      have hl : ∀ (V : List Int) (T : List Int), (stlO V T).1.length ≤ V.length := by
        intro V
        induction V with
        | nil => intro T; exact Nat.le_refl _
        | cons a V ih =>
          intro T
          unfold stlO
          by_cases a1 : a = 38
          · rw [if_pos a1]; have := ih (T ++ [-1]); rw [List.length_cons]; omega
          · rw [if_neg a1]
            by_cases a2 : a = 124
            · rw [if_pos a2]; have := ih (T ++ [-2]); rw [List.length_cons]; omega
            · rw [if_neg a2]; exact Nat.le_refl _
      have h1 := hl W (T ++ [-1])
      rw [this, List.length_cons] at h1
      omega
    · rw [if_neg c1]
theorem topT_c {c : Int} {W : List Int} (h1 : ¬ c = 33) (h2 : ¬ c = 38) : topT (c :: W) := ⟨by unfold popN; rw [if_neg h1], fun T => by unfold stl3; rw [if_neg h2]⟩
theorem topE_c {c : Int} {W : List Int} (h1 : ¬ c = 33) (h2 : ¬ c = 38) (h3 : ¬ c = 124) : topE (c :: W) := ⟨by unfold popN; rw [if_neg h1], fun T => by unfold stlO; rw [if_neg h2, if_neg h3]⟩
theorem topE_n : topE [] := ⟨rfl, fun _ => rfl⟩
theorem nots_t {W : List Int} (h : popN W = W) : nots W = [] := by
  cases W with
  | nil => rfl
  | cons c W =>
    unfold nots
    by_cases c1 : c = 33
    · exfalso
      unfold popN at h
      rw [if_pos c1] at h
      have hl : ∀ V : List Int, (popN V).length ≤ V.length := by
        intro V
        induction V with
        | nil => exact Nat.le_refl _
        | cons a V ih =>
          unfold popN
          by_cases a1 : a = 33
          · rw [if_pos a1, List.length_cons]; omega
          · rw [if_neg a1]; exact Nat.le_refl _
      have h1 := hl W
      rw [h, List.length_cons] at h1
      omega
    · rw [if_neg c1]
theorem stl_comp : ∀ (S T : List Int), stlO S T = stlO (stl3 S T).1 (stl3 S T).2 := by
  intro S
  induction S with
  | nil => intro T; rfl
  | cons c S ih =>
    intro T
    by_cases c1 : c = 38
    · have e1 : stl3 (c :: S) T = stl3 S (T ++ [-1]) := by
        show (if c = 38 then stl3 S (T ++ [-1]) else (c :: S, T)) = _
        rw [if_pos c1]
      have e2 : stlO (c :: S) T = stlO S (T ++ [-1]) := by
        show (if c = 38 then stlO S (T ++ [-1]) else if c = 124 then stlO S (T ++ [-2]) else (c :: S, T)) = _
        rw [if_pos c1]
      rw [e1, e2, ih]
    · have e1 : stl3 (c :: S) T = (c :: S, T) := by
        show (if c = 38 then stl3 S (T ++ [-1]) else (c :: S, T)) = _
        rw [if_neg c1]
      rw [e1]
/-- what a reader of F does on the stack -/
def simF (nx : Nat → Int) (o : Nat) (f : Nat → Bool × Nat × List Int) : Prop := ∀ (p : Nat) (W T : List Int), opn W = o → ((f p).1 = true → ∀ r, hltE nx (f p).2.1 false (popN W) (T ++ ((f p).2.2 ++ nots W)) r → hltE nx p true W T r) ∧ ((f p).1 = false → hltE nx p true W T (false, (f p).2.1, []))
/-- what a reader of T does -/
def simT (nx : Nat → Int) (n o : Nat) (f : Nat → Bool × Nat × List Int) : Prop := ∀ (p : Nat) (W T : List Int), p ≤ n → opn W = o → topT W → ((f p).1 = true → ∀ r, (∀ S T', stl3 S T' = (W, T ++ (f p).2.2) → ¬ nx (f p).2.1 = 38 → hltE nx (f p).2.1 false S T' r) → hltE nx p true W T r) ∧ ((f p).1 = false → hltE nx p true W T (false, (f p).2.1, []))
def simE (nx : Nat → Int) (n o : Nat) (f : Nat → Bool × Nat × List Int) : Prop := ∀ (p : Nat) (W T : List Int), p ≤ n → opn W = o → topE W → ((f p).1 = true → ∀ r, (∀ S T', stlO S T' = (W, T ++ (f p).2.2) → ¬ nx (f p).2.1 = 38 → ¬ nx (f p).2.1 = 124 → hltE nx (f p).2.1 false S T' r) → hltE nx p true W T r) ∧ ((f p).1 = false → hltE nx p true W T (false, (f p).2.1, []))
theorem opn_o {c : Int} {W : List Int} (h : c = 38 ∨ c = 124) : opn (c :: W) = opn W := by
  show (if c = 33 ∨ c = 40 then opn W + 1 else opn W) = opn W
  rw [if_neg (by omega)]
theorem chn3 {nx : Nat → Int} {n o : Nat} {f : Nat → Bool × Nat × List Int} (ht : txt nx n) (hg : gdS n f) (hn : n ≤ 100) (hf : simF nx o f) : ∀ (k : Nat) (q : Bool × Nat × List Int) (W T0 S T' : List Int), opn W = o → topT W → q.2.1 ≤ n → n ≤ q.2.1 + k → (q.1 = true → stl3 S T' = (W, T0 ++ q.2.2)) → ((chnS nx f 38 (-1) k q).1 = true → ∀ r, (∀ S T', stl3 S T' = (W, T0 ++ (chnS nx f 38 (-1) k q).2.2) → ¬ nx (chnS nx f 38 (-1) k q).2.1 = 38 → hltE nx (chnS nx f 38 (-1) k q).2.1 false S T' r) → q.1 = true ∧ hltE nx q.2.1 false S T' r) ∧ ((chnS nx f 38 (-1) k q).1 = false → q.1 = true → hltE nx q.2.1 false S T' (false, (chnS nx f 38 (-1) k q).2.1, [])) := by
  intro k
  induction k with
  | zero =>
    intro q W T0 S T' ho hW hq hk hS
    refine ⟨fun h1 r hr => ⟨h1, hr S T' (hS h1) ?_⟩, fun h1 h2 => ?_⟩
    · show ¬ nx q.2.1 = 38
      rw [ht.1 q.2.1 (by omega)]
      decide
    · have h1' : q.1 = false := h1
      rw [h1'] at h2
      exact absurd h2 Bool.false_ne_true
  | succ k ih =>
    intro q W T0 S T' ho hW hq hk hS
    unfold chnS
    by_cases c : q.1 = true ∧ nx q.2.1 = 38
    · rw [if_pos c]
      have lt := txt_lt ht (by decide) c.2
      have hgp := hg (q.2.1 + 1) (by omega)
      have hS1 := hS c.1
      have hF := hf (q.2.1 + 1) (38 :: W) (T0 ++ q.2.2) (by rw [opn_o (Or.inl rfl)]; exact ho)
      have e1 : popN (38 :: W) = 38 :: W := by unfold popN; rw [if_neg (by decide)]
      have e2 : nots (38 :: W) = [] := by unfold nots; rw [if_neg (by decide)]
      rw [e1, e2, List.append_nil] at hF
      have e3 : stl3 (38 :: W) (T0 ++ q.2.2 ++ (f (q.2.1 + 1)).2.2) = (W, T0 ++ (q.2.2 ++ ((f (q.2.1 + 1)).2.2 ++ [-1]))) := by
        have : stl3 (38 :: W) (T0 ++ q.2.2 ++ (f (q.2.1 + 1)).2.2) = stl3 W (T0 ++ q.2.2 ++ (f (q.2.1 + 1)).2.2 ++ [-1]) := rfl
        rw [this, hW.2]
        simp only [List.append_assoc]
      have h0 := ih ((f (q.2.1 + 1)).1, (f (q.2.1 + 1)).2.1, q.2.2 ++ ((f (q.2.1 + 1)).2.2 ++ [-1])) W T0 (38 :: W) (T0 ++ q.2.2 ++ (f (q.2.1 + 1)).2.2) ho hW hgp.2 (by simp only []; omega) (fun _ => e3)
      -- one step of the stack
      have stp1 : ∀ r, hltE nx (q.2.1 + 1) true (38 :: W) (T0 ++ q.2.2) r → hltE nx q.2.1 false S T' r := by
        rintro r ⟨j, hj⟩
        refine ⟨j + 1, ?_⟩
        show (if nx q.2.1 = 38 then runE nx j (q.2.1 + 1) true (38 :: (stl3 S T').1) (stl3 S T').2 else _) = _
        rw [if_pos c.2, hS1]
        exact hj
      refine ⟨fun h1 r hr => ⟨c.1, ?_⟩, fun h1 _ => ?_⟩
      · obtain ⟨g1, g2⟩ := h0.1 h1 r hr
        exact stp1 r (hF.1 g1 r g2)
      · by_cases hfo : (f (q.2.1 + 1)).1 = true
        · exact stp1 _ (hF.1 hfo _ (h0.2 h1 hfo))
        · have e4 : chnS nx f 38 (-1) k ((f (q.2.1 + 1)).1, (f (q.2.1 + 1)).2.1, q.2.2 ++ ((f (q.2.1 + 1)).2.2 ++ [-1])) = ((f (q.2.1 + 1)).1, (f (q.2.1 + 1)).2.1, q.2.2 ++ ((f (q.2.1 + 1)).2.2 ++ [-1])) := by
            cases k with
            | zero => rfl
            | succ k =>
              unfold chnS
              rw [if_neg (fun hh => hfo hh.1)]
          rw [e4]
          exact stp1 _ (hF.2 (Bool.eq_false_iff.mpr hfo))
    · rw [if_neg c]
      refine ⟨fun h1 r hr => ⟨h1, hr S T' (hS h1) (fun h2 => c ⟨h1, h2⟩)⟩, fun h1 h2 => ?_⟩
      rw [h1] at h2
      exact absurd h2 Bool.false_ne_true
theorem bot_sim {nx : Nat → Int} {n o : Nat} {f : Nat → Bool × Nat × List Int} (ht : txt nx n) (hg : gdS n f) (hn : n ≤ 100) (hf : simF nx o f) : simT nx n o (botS nx f) := by
  intro p W T hp ho hW
  have hF := hf p W T ho
  rw [hW.1, nots_t hW.1, List.append_nil] at hF
  have hgp := hg p hp
  have h0 := chn3 ht hg hn hf 100 (f p) W T W (T ++ (f p).2.2) ho hW hgp.2 (by omega) (fun _ => hW.2 _)
  refine ⟨fun h1 r hr => ?_, fun h1 => ?_⟩
  · obtain ⟨g1, g2⟩ := h0.1 h1 r hr
    exact hF.1 g1 r g2
  · cases hfo : (f p).1 with
    | true => exact hF.1 hfo _ (h0.2 h1 hfo)
    | false =>
      have e4 : botS nx f p = f p := by
        show chnS nx f 38 (-1) 100 (f p) = f p
        unfold chnS
        rw [if_neg (fun hh => by rw [hfo] at hh; exact Bool.false_ne_true hh.1)]
      rw [e4]
      exact hF.2 hfo
theorem chnO {nx : Nat → Int} {n o : Nat} {f : Nat → Bool × Nat × List Int} (ht : txt nx n) (hg : gdS n f) (hn : n ≤ 100) (hf : simT nx n o f) : ∀ (k : Nat) (q : Bool × Nat × List Int) (W T0 S T' : List Int), opn W = o → topE W → q.2.1 ≤ n → n ≤ q.2.1 + k → (q.1 = true → stlO S T' = (W, T0 ++ q.2.2) ∧ ¬ nx q.2.1 = 38) → ((chnS nx f 124 (-2) k q).1 = true → ∀ r, (∀ S T', stlO S T' = (W, T0 ++ (chnS nx f 124 (-2) k q).2.2) → ¬ nx (chnS nx f 124 (-2) k q).2.1 = 38 → ¬ nx (chnS nx f 124 (-2) k q).2.1 = 124 → hltE nx (chnS nx f 124 (-2) k q).2.1 false S T' r) → q.1 = true ∧ hltE nx q.2.1 false S T' r) ∧ ((chnS nx f 124 (-2) k q).1 = false → q.1 = true → hltE nx q.2.1 false S T' (false, (chnS nx f 124 (-2) k q).2.1, [])) := by
  intro k
  induction k with
  | zero =>
    intro q W T0 S T' ho hW hq hk hS
    refine ⟨fun h1 r hr => ⟨h1, hr S T' (hS h1).1 (hS h1).2 ?_⟩, fun h1 h2 => ?_⟩
    · show ¬ nx q.2.1 = 124
      rw [ht.1 q.2.1 (by omega)]
      decide
    · have h1' : q.1 = false := h1
      rw [h1'] at h2
      exact absurd h2 Bool.false_ne_true
  | succ k ih =>
    intro q W T0 S T' ho hW hq hk hS
    unfold chnS
    by_cases c : q.1 = true ∧ nx q.2.1 = 124
    · rw [if_pos c]
      have lt := txt_lt ht (by decide) c.2
      have hgp := hg (q.2.1 + 1) (by omega)
      have hS1 := (hS c.1).1
      have hF := hf (q.2.1 + 1) (124 :: W) (T0 ++ q.2.2) (by omega) (by rw [opn_o (Or.inr rfl)]; exact ho) (topT_c (by decide) (by decide))
      -- one step of the stack
      have stp1 : ∀ r, hltE nx (q.2.1 + 1) true (124 :: W) (T0 ++ q.2.2) r → hltE nx q.2.1 false S T' r := by
        rintro r ⟨j, hj⟩
        refine ⟨j + 1, ?_⟩
        show (if nx q.2.1 = 38 then _ else if nx q.2.1 = 124 then runE nx j (q.2.1 + 1) true (124 :: (stlO S T').1) (stlO S T').2 else _) = _
        rw [if_neg (by rw [c.2]; decide), if_pos c.2, hS1]
        exact hj
      have h0 : ∀ S2 T2, stl3 S2 T2 = (124 :: W, T0 ++ q.2.2 ++ (f (q.2.1 + 1)).2.2) → ¬ nx (f (q.2.1 + 1)).2.1 = 38 → _ := fun S2 T2 hs h38 => ih ((f (q.2.1 + 1)).1, (f (q.2.1 + 1)).2.1, q.2.2 ++ ((f (q.2.1 + 1)).2.2 ++ [-2])) W T0 S2 T2 ho hW hgp.2 (by simp only []; omega) (fun _ => ⟨by
        rw [stl_comp, hs]
        have : stlO (124 :: W) (T0 ++ q.2.2 ++ (f (q.2.1 + 1)).2.2) = stlO W (T0 ++ q.2.2 ++ (f (q.2.1 + 1)).2.2 ++ [-2]) := rfl
        rw [this, hW.2]
        simp only [List.append_assoc], h38⟩)
      refine ⟨fun h1 r hr => ⟨c.1, ?_⟩, fun h1 _ => ?_⟩
      · have hok : (f (q.2.1 + 1)).1 = true := by
          cases hfo : (f (q.2.1 + 1)).1 with
          | true => rfl
          | false =>
            exfalso
            have e4 : chnS nx f 124 (-2) k ((f (q.2.1 + 1)).1, (f (q.2.1 + 1)).2.1, q.2.2 ++ ((f (q.2.1 + 1)).2.2 ++ [-2])) = ((f (q.2.1 + 1)).1, (f (q.2.1 + 1)).2.1, q.2.2 ++ ((f (q.2.1 + 1)).2.2 ++ [-2])) := by
              cases k with
              | zero => rfl
              | succ k =>
                unfold chnS
                rw [if_neg (fun hh => by rw [hfo] at hh; exact Bool.false_ne_true hh.1)]
            rw [e4, hfo] at h1
            exact Bool.false_ne_true h1
        refine stp1 r (hF.1 hok r (fun S2 T2 hs h38 => ?_))
        exact ((h0 S2 T2 hs h38).1 h1 r hr).2
      · by_cases hfo : (f (q.2.1 + 1)).1 = true
        · refine stp1 _ (hF.1 hfo _ (fun S2 T2 hs h38 => ?_))
          exact (h0 S2 T2 hs h38).2 h1 hfo
        · have e4 : chnS nx f 124 (-2) k ((f (q.2.1 + 1)).1, (f (q.2.1 + 1)).2.1, q.2.2 ++ ((f (q.2.1 + 1)).2.2 ++ [-2])) = ((f (q.2.1 + 1)).1, (f (q.2.1 + 1)).2.1, q.2.2 ++ ((f (q.2.1 + 1)).2.2 ++ [-2])) := by
            cases k with
            | zero => rfl
            | succ k =>
              unfold chnS
              rw [if_neg (fun hh => hfo hh.1)]
          rw [e4]
          exact stp1 _ (hF.2 (Bool.eq_false_iff.mpr hfo))
    · rw [if_neg c]
      refine ⟨fun h1 r hr => ⟨h1, hr S T' (hS h1).1 (hS h1).2 (fun h2 => c ⟨h1, h2⟩)⟩, fun h1 h2 => ?_⟩
      rw [h1] at h2
      exact absurd h2 Bool.false_ne_true
theorem eit_sim {nx : Nat → Int} {n o : Nat} {f : Nat → Bool × Nat × List Int} (ht : txt nx n) (hg : gdS n f) (hn : n ≤ 100) (hf : simF nx o f) : simE nx n o (eitS nx f) := by
  intro p W T hp ho hW
  have hT := bot_sim ht hg hn hf
  have hF := hT p W T hp ho (topT_E hW)
  have hgb := bot_g ht hg
  have hgp := hgb p hp
  have h0 : ∀ S T', stl3 S T' = (W, T ++ (botS nx f p).2.2) → ¬ nx (botS nx f p).2.1 = 38 → _ := fun S T' hs h38 => chnO ht hgb hn hT 100 (botS nx f p) W T S T' ho hW hgp.2 (by omega) (fun _ => ⟨by rw [stl_comp, hs, hW.2], h38⟩)
  refine ⟨fun h1 r hr => ?_, fun h1 => ?_⟩
  · have hok : (botS nx f p).1 = true := by
      cases hfo : (botS nx f p).1 with
      | true => rfl
      | false =>
        exfalso
        have e4 : eitS nx f p = botS nx f p := by
          show chnS nx (botS nx f) 124 (-2) 100 (botS nx f p) = botS nx f p
          unfold chnS
          rw [if_neg (fun hh => by rw [hfo] at hh; exact Bool.false_ne_true hh.1)]
        rw [e4, hfo] at h1
        exact Bool.false_ne_true h1
    refine hF.1 hok r (fun S2 T2 hs h38 => ?_)
    exact ((h0 S2 T2 hs h38).1 h1 r hr).2
  · cases hfo : (botS nx f p).1 with
    | true =>
      refine hF.1 hfo _ (fun S2 T2 hs h38 => ?_)
      exact (h0 S2 T2 hs h38).2 h1 hfo
    | false =>
      have e4 : eitS nx f p = botS nx f p := by
        show chnS nx (botS nx f) 124 (-2) 100 (botS nx f p) = botS nx f p
        unfold chnS
        rw [if_neg (fun hh => by rw [hfo] at hh; exact Bool.false_ne_true hh.1)]
      rw [e4]
      exact hF.2 hfo
/-- a TEST -/
theorem tst_sim {nx : Nat → Int} {p : Nat} {W T : List Int} (h33 : ¬ nx p = 33) (h40 : ¬ nx p = 40) : ((tstS nx p).1 = true → ∀ r, hltE nx (tstS nx p).2.1 false (popN W) (T ++ ((tstS nx p).2.2 ++ nots W)) r → hltE nx p true W T r) ∧ ((tstS nx p).1 = false → hltE nx p true W T (false, (tstS nx p).2.1, [])) := by
  refine ⟨fun h1 r hr => ?_, fun h1 => ⟨1, ?_⟩⟩
  · obtain ⟨k, hk⟩ := hr
    refine ⟨k + 1, ?_⟩
    show (if nx p = 33 ∨ nx p = 40 then _ else if (tstS nx p).1 = true then runE nx k (tstS nx p).2.1 false (popN W) (T ++ ((tstS nx p).2.2 ++ nots W)) else _) = _
    rw [if_neg (fun e => e.elim h33 h40), if_pos h1]
    exact hk
  · show (if nx p = 33 ∨ nx p = 40 then _ else if (tstS nx p).1 = true then _ else some (false, (tstS nx p).2.1, [])) = _
    rw [if_neg (fun e => e.elim h33 h40), if_neg (by rw [h1]; exact Bool.false_ne_true)]
theorem one_sim {nx : Nat → Int} {n : Nat} (ht : txt nx n) (hn : n ≤ 100) : ∀ (m o : Nat), o + m = 4 → simF nx o (oneS nx m) := by
  intro m
  induction m with
  | zero =>
    intro o hom p W T ho
    show ((tstS nx p).1 = true → ∀ r, hltE nx (tstS nx p).2.1 false (popN W) (T ++ ((tstS nx p).2.2 ++ nots W)) r → hltE nx p true W T r) ∧ ((tstS nx p).1 = false → hltE nx p true W T (false, (tstS nx p).2.1, []))
    by_cases h3 : nx p = 33 ∨ nx p = 40
    · have e : tstS nx p = (false, p, []) := by
        unfold tstS
        have : liS (nx p) < 0 := by rcases h3 with h | h <;> rw [h] <;> decide
        rw [if_pos this]
      rw [e]
      refine ⟨fun h1 => absurd h1 Bool.false_ne_true, fun _ => ⟨1, ?_⟩⟩
      show (if nx p = 33 ∨ nx p = 40 then (if opn W = 4 then some (false, p, []) else _) else _) = _
      rw [if_pos h3, if_pos (by omega)]
    · exact tst_sim (fun h => h3 (Or.inl h)) (fun h => h3 (Or.inr h))
  | succ m ih =>
    intro o hom p W T ho
    have ihm := ih (o + 1) (by omega)
    -- what opens
    have op : ∀ r, (nx p = 33 ∨ nx p = 40) → hltE nx (p + 1) true (nx p :: W) T r → hltE nx p true W T r := by
      rintro r h3 ⟨k, hk⟩
      refine ⟨k + 1, ?_⟩
      show (if nx p = 33 ∨ nx p = 40 then (if opn W = 4 then some (false, p, []) else runE nx k (p + 1) true (nx p :: W) T) else _) = _
      rw [if_pos h3, if_neg (by omega)]
      exact hk
    have opo : (nx p = 33 ∨ nx p = 40) → opn (nx p :: W) = o + 1 := by
      intro h3
      show (if nx p = 33 ∨ nx p = 40 then opn W + 1 else opn W) = _
      rw [if_pos h3, ho]
    unfold oneS
    by_cases c1 : nx p = 33
    · rw [if_pos c1]
      have h := ihm (p + 1) (nx p :: W) T (opo (Or.inl c1))
      have e1 : popN (nx p :: W) = popN W := by
        show (if nx p = 33 then popN W else _) = _
        rw [if_pos c1]
      have e2 : nots (nx p :: W) = -3 :: nots W := by
        show (if nx p = 33 then -3 :: nots W else []) = _
        rw [if_pos c1]
      rw [e1, e2] at h
      refine ⟨fun h1 r hr => op r (Or.inl c1) (h.1 h1 r ?_), fun h1 => op _ (Or.inl c1) (h.2 h1)⟩
      have e3 : T ++ ((oneS nx m (p + 1)).2.2 ++ -3 :: nots W) = T ++ ((oneS nx m (p + 1)).2.2 ++ [-3] ++ nots W) := by simp
      rw [e3]
      exact hr
    rw [if_neg c1]
    by_cases c2 : nx p = 40
    · rw [if_pos c2]
      have lt := txt_lt ht (by decide) c2
      have hE := eit_sim ht (one_g ht m) hn ihm (p + 1) (nx p :: W) T (by omega) (opo (Or.inr c2)) (topE_c c1 (by rw [c2]; decide) (by rw [c2]; decide))
      unfold parS
      by_cases c3 : (eitS nx (oneS nx m) (p + 1)).1 = true
      · rw [if_pos c3]
        by_cases c4 : nx (eitS nx (oneS nx m) (p + 1)).2.1 = 41
        · rw [if_pos c4]
          refine ⟨fun _ r hr => op r (Or.inr c2) (hE.1 c3 r (fun S T' hs h38 h124 => ?_)), fun h1 => absurd h1 (fun h => Bool.false_ne_true h.symm)⟩
          obtain ⟨k, hk⟩ := hr
          refine ⟨k + 1, ?_⟩
          show (if nx (eitS nx (oneS nx m) (p + 1)).2.1 = 38 then _ else if nx (eitS nx (oneS nx m) (p + 1)).2.1 = 124 then _ else match (stlO S T').1 with
            | [] => some (true, (eitS nx (oneS nx m) (p + 1)).2.1, (stlO S T').2)
            | _ :: r => if nx (eitS nx (oneS nx m) (p + 1)).2.1 = 41 then runE nx k ((eitS nx (oneS nx m) (p + 1)).2.1 + 1) false (popN r) ((stlO S T').2 ++ nots r) else some (false, (eitS nx (oneS nx m) (p + 1)).2.1, [])) = _
          rw [if_neg h38, if_neg h124, hs]
          show (if nx (eitS nx (oneS nx m) (p + 1)).2.1 = 41 then runE nx k ((eitS nx (oneS nx m) (p + 1)).2.1 + 1) false (popN W) (T ++ (eitS nx (oneS nx m) (p + 1)).2.2 ++ nots W) else _) = _
          rw [if_pos c4, List.append_assoc]
          exact hk
        · rw [if_neg c4]
          refine ⟨fun h1 => absurd h1 Bool.false_ne_true, fun _ => op _ (Or.inr c2) (hE.1 c3 _ (fun S T' hs h38 h124 => ⟨1, ?_⟩))⟩
          show (if nx (eitS nx (oneS nx m) (p + 1)).2.1 = 38 then _ else if nx (eitS nx (oneS nx m) (p + 1)).2.1 = 124 then _ else match (stlO S T').1 with
            | [] => some (true, (eitS nx (oneS nx m) (p + 1)).2.1, (stlO S T').2)
            | _ :: r => if nx (eitS nx (oneS nx m) (p + 1)).2.1 = 41 then runE nx 0 ((eitS nx (oneS nx m) (p + 1)).2.1 + 1) false (popN r) ((stlO S T').2 ++ nots r) else some (false, (eitS nx (oneS nx m) (p + 1)).2.1, [])) = _
          rw [if_neg h38, if_neg h124, hs]
          show (if nx (eitS nx (oneS nx m) (p + 1)).2.1 = 41 then _ else some (false, (eitS nx (oneS nx m) (p + 1)).2.1, [])) = _
          rw [if_neg c4]
      · rw [if_neg c3]
        have c3' : (eitS nx (oneS nx m) (p + 1)).1 = false := by cases h : (eitS nx (oneS nx m) (p + 1)).1 <;> simp_all
        exact ⟨fun h1 => absurd h1 c3, fun h1 => op _ (Or.inr c2) (hE.2 c3')⟩
    · rw [if_neg c2]
      exact tst_sim c1 c2
/-- an E, from an empty stack -/
theorem E_sim {nx : Nat → Int} {n p : Nat} (ht : txt nx n) (hn : n ≤ 100) (hp : p ≤ n) : ∃ k, runE nx k p true [] [] = some (if (eitS nx (oneS nx 4) p).1 = true then (true, (eitS nx (oneS nx 4) p).2.1, (eitS nx (oneS nx 4) p).2.2) else (false, (eitS nx (oneS nx 4) p).2.1, [])) := by
  have hE := eit_sim ht (one_g ht 4) hn (one_sim ht hn 4 0 rfl) p [] [] hp rfl topE_n
  by_cases c : (eitS nx (oneS nx 4) p).1 = true
  · rw [if_pos c]
    refine hE.1 c _ (fun S T' hs h38 h124 => ⟨1, ?_⟩)
    show (if nx (eitS nx (oneS nx 4) p).2.1 = 38 then _ else if nx (eitS nx (oneS nx 4) p).2.1 = 124 then _ else match (stlO S T').1 with
      | [] => some (true, (eitS nx (oneS nx 4) p).2.1, (stlO S T').2)
      | _ :: r => _) = _
    rw [if_neg h38, if_neg h124, hs]
    rfl
  · rw [if_neg c]
    exact hE.2 (by cases h : (eitS nx (oneS nx 4) p).1 <;> simp_all)
