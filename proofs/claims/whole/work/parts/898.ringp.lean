/-! orders by numbers -/
def r6 : Nat → Nat → List Nat
  | 0, _ => []
  | k + 1, m => (m % 6) :: r6 k (m / 6)
def Eo : Nat → List (List Nat)
  | 0 => [[]]
  | j + 1 => (List.range' 0 6).flatMap (fun b => (Eo j).map (fun l => b :: l))
theorem flat_map {α β γ : Type} (g : β → γ) (F : α → List β) : ∀ l : List α, (l.flatMap F).map g = l.flatMap (fun a => (F a).map g)
  | [] => rfl
  | a :: l => by rw [List.flatMap_cons, List.flatMap_cons, List.map_append, flat_map g F l]
theorem map_flat {α β γ : Type} (g : α → β) (F : β → List γ) : ∀ l : List α, (l.map g).flatMap F = l.flatMap (fun a => F (g a))
  | [] => rfl
  | a :: l => by rw [List.map_cons, List.flatMap_cons, List.flatMap_cons, map_flat g F l]
theorem flat_flat {α β γ : Type} (F : α → List β) (K : β → List γ) : ∀ l : List α, (l.flatMap F).flatMap K = l.flatMap (fun a => (F a).flatMap K)
  | [] => rfl
  | a :: l => by rw [List.flatMap_cons, List.flatMap_cons, List.flatMap_append, flat_flat F K l]
/-- a digit may come last as well as first -/
theorem Eo_r : ∀ j, Eo (j + 1) = (Eo j).flatMap (fun l => (List.range' 0 6).map (fun d => l ++ [d])) := by
  intro j
  induction j with
  | zero => decide
  | succ j ih =>
    have e1 : Eo (j + 1 + 1) = (List.range' 0 6).flatMap (fun b => (Eo (j + 1)).map (fun l => b :: l)) := rfl
    have e2 : Eo (j + 1) = (List.range' 0 6).flatMap (fun b => (Eo j).map (fun l => b :: l)) := rfl
    rw [e1, ih]
    rw [show ((Eo j).flatMap (fun l => (List.range' 0 6).map (fun d => l ++ [d]))) = Eo (j + 1) from ih.symm]
    conv => rhs; rw [e2]
    rw [flat_flat]
    refine flat_congr _ _ _ (fun b _ => ?_)
    rw [ih, flat_map, map_flat]
    refine flat_congr _ _ _ (fun l _ => ?_)
    rw [List.map_map]
    rfl
theorem rng_6 : ∀ N : Nat, List.range' 0 (6 * N) = (List.range' 0 N).flatMap (fun q => (List.range' 0 6).map (fun d => 6 * q + d)) := by
  intro N
  induction N with
  | zero => rfl
  | succ N ih =>
    have h1 := @List.range'_append 0 N 1 1
    rw [Nat.one_mul, Nat.zero_add] at h1
    rw [← h1, List.flatMap_append, ← ih]
    have h2 := @List.range'_append 0 (6 * N) 6 1
    rw [Nat.one_mul, Nat.zero_add] at h2
    rw [show 6 * (N + 1) = 6 * N + 6 by omega, ← h2]
    congr 1
theorem L6 : ∀ n : Nat, (List.range' 0 (6 ^ n)).map (fun m => (r6 n m).reverse) = Eo n := by
  intro n
  induction n with
  | zero => rfl
  | succ n ih =>
    rw [Eo_r, ← ih, map_flat, Nat.pow_succ, Nat.mul_comm, rng_6, flat_map]
    refine flat_congr _ _ _ (fun q _ => ?_)
    rw [List.map_map]
    apply List.map_congr_left
    intro d hd
    rw [List.mem_range'_1] at hd
    show (r6 (n + 1) (6 * q + d)).reverse = (r6 n q).reverse ++ [d]
    have e : r6 (n + 1) (6 * q + d) = ((6 * q + d) % 6) :: r6 n ((6 * q + d) / 6) := rfl
    rw [e, List.reverse_cons, show (6 * q + d) % 6 = d by omega, show (6 * q + d) / 6 = q by omega]
/-- an order of BELLS that S doesn't have -/
def vl (n : Nat) : Nat → List Nat → Bool
  | _, [] => true
  | S, b :: l => decide (b < n) && decide (S / 2 ^ b % 2 = 0) && vl n (S + 2 ^ b) l
def sc (t : Int) (H : q_Gi) : Nat → List Nat → Int
  | _, [] => 0
  | i, b :: l => gS t H i b + sc t H (i + 1) l
def stR (t : Int) (H : q_Gi) (n : Nat) (st : Int × List Nat) (l : List Nat) : Int × List Nat := if vl n 0 l = true ∧ st.1 < sc t H 0 l then (sc t H 0 l, l) else st
/-- the first that is most -/
theorem fst_max {c : Nat → Prop} [DecidablePred c] {val : Nat → Int} {lst : Nat → List Nat} : ∀ (l : List Nat) (st : Int × List Nat), (l.foldl (fun st b => if c b ∧ st.1 < val b then (val b, lst b) else st) st = st ∧ ∀ b, b ∈ l → c b → val b ≤ st.1) ∨ ∃ l1 b l2, l = l1 ++ b :: l2 ∧ c b ∧ st.1 < val b ∧ l.foldl (fun st b => if c b ∧ st.1 < val b then (val b, lst b) else st) st = (val b, lst b) ∧ (∀ b', b' ∈ l1 → c b' → val b' < val b) ∧ (∀ b', b' ∈ l2 → c b' → val b' ≤ val b) := by
  intro l
  induction l with
  | nil => intro st; exact Or.inl ⟨rfl, fun b hb => absurd hb List.not_mem_nil⟩
  | cons a l ih =>
    intro st
    rw [List.foldl_cons]
    by_cases ca : c a ∧ st.1 < val a
    · rw [if_pos ca]
      rcases ih (val a, lst a) with ⟨h1, h2⟩ | ⟨l1, b, l2, h1, h2, h3, h4, h5, h6⟩
      · exact Or.inr ⟨[], a, l, rfl, ca.1, ca.2, h1, fun b' hb => absurd hb List.not_mem_nil, h2⟩
      · refine Or.inr ⟨a :: l1, b, l2, by rw [h1]; rfl, h2, Int.lt_trans ca.2 h3, h4, ?_, h6⟩
        intro b' hb hc
        rcases List.mem_cons.mp hb with rfl | hb
        · exact h3
        · exact h5 b' hb hc
    · rw [if_neg ca]
      rcases ih st with ⟨h1, h2⟩ | ⟨l1, b, l2, h1, h2, h3, h4, h5, h6⟩
      · refine Or.inl ⟨h1, fun b hb hc => ?_⟩
        rcases List.mem_cons.mp hb with rfl | hb
        · have : ¬ st.1 < val b := fun h => ca ⟨hc, h⟩
          omega
        · exact h2 b hb hc
      · refine Or.inr ⟨a :: l1, b, l2, by rw [h1]; rfl, h2, h3, h4, ?_, h6⟩
        intro b' hb hc
        rcases List.mem_cons.mp hb with rfl | hb
        · have : ¬ st.1 < val b' := fun h => ca ⟨hc, h⟩
          omega
        · exact h5 b' hb hc
theorem foldl_flat {α β γ : Type} (F : α → List β) (g : γ → β → γ) : ∀ (l : List α) (i : γ), (l.flatMap F).foldl g i = l.foldl (fun a x => (F x).foldl g a) i
  | [], _ => rfl
  | a :: l, i => by
    rw [List.flatMap_cons, List.foldl_append, List.foldl_cons]
    exact foldl_flat F g l _
theorem foldl_congr' {β γ : Type} (f g : γ → β → γ) : ∀ (l : List β) (i : γ), (∀ x, x ∈ l → ∀ a, f a x = g a x) → l.foldl f i = l.foldl g i
  | [], _, _ => rfl
  | a :: l, i, h => by
    rw [List.foldl_cons, List.foldl_cons, h a List.mem_cons_self]
    exact foldl_congr' f g l _ (fun x hx => h x (List.mem_cons_of_mem _ hx))
theorem foldl_id {β γ : Type} (f : γ → β → γ) : ∀ (l : List β) (i : γ), (∀ x, x ∈ l → ∀ a, f a x = a) → l.foldl f i = i
  | [], _, _ => rfl
  | a :: l, i, h => by
    rw [List.foldl_cons, h a List.mem_cons_self]
    exact foldl_id f l _ (fun x hx => h x (List.mem_cons_of_mem _ hx))
theorem blk {t : Int} {H : q_Gi} {n : Nat} (hn : n < 7) : ∀ (j S : Nat) (p : List Nat) (s0 : Int) (st : Int × List Nat), j + p.length = n → S < 2 ^ n → pcN S = p.length → (∀ l, vl n 0 (p ++ l) = vl n S l) → (∀ l, sc t H 0 (p ++ l) = s0 + sc t H p.length l) → (Eo j).foldl (fun st l => stR t H n st (p ++ l)) st = if st.1 < s0 + VS t H n j S then (s0 + VS t H n j S, p ++ grL t H n j S) else st := by
  have hpf := pc_full n hn
  intro j
  induction j with
  | zero =>
    intro S p s0 st hj hS hp hv hs
    show stR t H n st (p ++ []) = if st.1 < s0 + 0 then (s0 + 0, p ++ []) else st
    unfold stR
    rw [hv, hs]
    show (if true = true ∧ st.1 < s0 + 0 then (s0 + 0, p ++ []) else st) = _
    by_cases c : st.1 < s0 + 0
    · rw [if_pos ⟨rfl, c⟩, if_pos c]
    · rw [if_neg (fun h => c h.2), if_neg c]
  | succ j ih =>
    intro S p s0 st hj hS hp hv hs
    have e1 : Eo (j + 1) = (List.range' 0 6).flatMap (fun b => (Eo j).map (fun l => b :: l)) := rfl
    rw [e1, foldl_flat]
    have hsp : List.range' 0 6 = List.range' 0 n ++ List.range' n (6 - n) := by
      have := @List.range'_append 0 n (6 - n) 1
      rw [Nat.one_mul, Nat.zero_add] at this
      rw [this]
      congr 1
      omega
    rw [hsp, List.foldl_append]
    -- what no BELL has counts nothing
    have hbad : ∀ (b : Nat) (a : Int × List Nat), ¬ (b < n ∧ S / 2 ^ b % 2 = 0) → ((Eo j).map (fun l => b :: l)).foldl (fun st l => stR t H n st (p ++ l)) a = a := by
      intro b a hb
      rw [foldl_mp]
      refine foldl_id _ _ _ (fun l _ a => ?_)
      unfold stR
      rw [hv]
      have : vl n S (b :: l) = false := by
        show (decide (b < n) && decide (S / 2 ^ b % 2 = 0) && vl n (S + 2 ^ b) l) = false
        by_cases c1 : b < n
        · rw [decide_eq_false (fun h => hb ⟨c1, h⟩), Bool.and_false, Bool.false_and]
        · rw [decide_eq_false c1, Bool.false_and, Bool.false_and]
      rw [this, if_neg (fun h => Bool.false_ne_true h.1)]
    rw [foldl_id _ (List.range' n (6 - n)) _ (fun b hb a => hbad b a (fun h => by rw [List.mem_range'_1] at hb; omega))]
    -- the others
    have hgood : ∀ b, b ∈ List.range' 0 n → ∀ a : Int × List Nat, ((Eo j).map (fun l => b :: l)).foldl (fun st l => stR t H n st (p ++ l)) a = (if S / 2 ^ b % 2 = 0 ∧ a.1 < s0 + (VS t H n j (S + 2 ^ b) + gS t H (n - (j + 1)) b) then (s0 + (VS t H n j (S + 2 ^ b) + gS t H (n - (j + 1)) b), p ++ (b :: grL t H n j (S + 2 ^ b))) else a) := by
      intro b hb a
      rw [List.mem_range'_1] at hb
      by_cases c0 : S / 2 ^ b % 2 = 0
      · have hbo := bit_ok n hn S (by omega) b (by omega) hS (by omega) c0
        rw [foldl_mp]
        have := ih (S + 2 ^ b) (p ++ [b]) (s0 + gS t H p.length b) a (by rw [List.length_append, List.length_cons, List.length_nil]; omega) hbo.1 (by rw [List.length_append, hbo.2.1, hp]; rfl) (fun l => by
          rw [List.append_assoc, hv]
          show (decide (b < n) && decide (S / 2 ^ b % 2 = 0) && vl n (S + 2 ^ b) l) = _
          rw [decide_eq_true (by omega), decide_eq_true c0]
          rfl) (fun l => by
          rw [List.append_assoc, hs, List.length_append]
          show s0 + (gS t H p.length b + sc t H (p.length + 1) l) = _
          rw [Int.add_assoc]
          rfl)
        have e2 : (fun st l => stR t H n st (p ++ [b] ++ l)) = (fun st l => stR t H n st (p ++ (b :: l))) := by funext st l; rw [List.append_assoc]; rfl
        rw [e2] at this
        rw [this, show p.length = n - (j + 1) by omega]
        have e3 : s0 + gS t H (n - (j + 1)) b + VS t H n j (S + 2 ^ b) = s0 + (VS t H n j (S + 2 ^ b) + gS t H (n - (j + 1)) b) := by omega
        rw [e3, List.append_assoc]
        by_cases c : a.1 < s0 + (VS t H n j (S + 2 ^ b) + gS t H (n - (j + 1)) b)
        · rw [if_pos c, if_pos ⟨c0, c⟩]; rfl
        · rw [if_neg c, if_neg (fun h => c h.2)]
      · rw [hbad b a (fun h => c0 h.2), if_neg (fun h => c0 h.1)]
    rw [foldl_congr' _ _ _ _ hgood]
    -- the first of the most
    have hV := @fmax_ge (fun b => VS t H n j (S + 2 ^ b) + gS t H (n - (j + 1)) b) (fun b => S / 2 ^ b % 2 = 0) _ (List.range' 0 n) 0
    change 0 ≤ VS t H n (j + 1) S ∧ (∀ b, b ∈ List.range' 0 n → S / 2 ^ b % 2 = 0 → VS t H n j (S + 2 ^ b) + gS t H (n - (j + 1)) b ≤ VS t H n (j + 1) S) at hV
    obtain ⟨bs, f1, f2, f3, f4⟩ := fb_ex (t := t) (H := H) (n := n) (k := j) (S := S) hn hS (by omega)
    have hbs : bs ∈ List.range' 0 n := by rw [List.mem_range'_1]; omega
    have efb : fbN t H n j S = bs := by unfold fbN; rw [f1]; rfl
    have eg : grL t H n (j + 1) S = bs :: grL t H n j (S + 2 ^ bs) := by
      rw [show grL t H n (j + 1) S = fbN t H n j S :: grL t H n j (S + 2 ^ fbN t H n j S) from rfl, efb]
    rcases @fst_max (fun b => S / 2 ^ b % 2 = 0) _ (fun b => s0 + (VS t H n j (S + 2 ^ b) + gS t H (n - (j + 1)) b)) (fun b => p ++ (b :: grL t H n j (S + 2 ^ b))) (List.range' 0 n) st with ⟨h1, h2⟩ | ⟨l1, b, l2, h1, h2, h3, h4, h5, h6⟩
    · rw [h1]
      have := h2 bs hbs f3
      rw [if_neg (by omega)]
    · rw [h4]
      have hb : b ∈ List.range' 0 n := by rw [h1]; exact List.mem_append_right _ List.mem_cons_self
      have hb1 := hV.2 b hb h2
      have hbv : VS t H n j (S + 2 ^ b) + gS t H (n - (j + 1)) b = VS t H n (j + 1) S := by
        rw [h1] at hbs
        rcases List.mem_append.mp hbs with hm | hm
        · have := h5 bs hm f3; omega
        · rcases List.mem_cons.mp hm with hm | hm
          · rw [← hm]; exact f4
          · have := h6 bs hm f3; omega
      have hok : okB t H n j S b = true := by unfold okB; rw [decide_eq_true h2, decide_eq_true hbv]; rfl
      have hfind : (List.range' 0 n).find? (okB t H n j S) = some b := by
        rw [h1, List.find?_append]
        have hn1 : l1.find? (okB t H n j S) = none := by
          rw [List.find?_eq_none]
          intro x hx hxk
          unfold okB at hxk
          simp only [Bool.and_eq_true, decide_eq_true_eq] at hxk
          have := h5 x hx hxk.1
          omega
        rw [hn1, List.find?_cons, hok]
        rfl
      have ebs : bs = b := by rw [f1] at hfind; exact Option.some.inj hfind
      rw [hbv] at h3 ⊢
      rw [if_pos h3, eg, ebs]
theorem ring_E {t : Int} {H : q_Gi} {n : Nat} (hn : n < 7) : (Eo n).foldl (stR t H n) (-1, []) = (VS t H n n 0, grL t H n n 0) := by
  have hpf := pc_full n hn
  have h := blk (t := t) (H := H) hn n 0 [] 0 (-1, []) rfl hpf.2.2.2 rfl (fun l => rfl) (fun l => by rw [Int.zero_add]; rfl)
  have hr := VS_r t H n n 0
  rw [if_pos (by simp only []; omega), Int.zero_add] at h
  exact h
