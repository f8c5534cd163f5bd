/-! TYPED MEMORY: what the cells 0 .. 128 (but the bare upland's) hold is told by integers G; all else is B's. By program (wip/whole/gen_mm.py) -/
abbrev q_Bv : Type := Nat → Nat → Value
abbrev q_Gi : Type := Nat → Nat → Int
/-- 0 raw, 1 ints, 2 longs, 3 an object, 4 a row of objects that may be null -/
def mT : List Nat := [3, 3, 1, 1, 1, 1, 1, 1, 3, 1, 1, 1, 1, 1, 1, 3, 1, 1, 1, 1, 1, 1, 3, 3, 1, 1, 1, 3, 1, 1, 1, 3, 1, 1, 1, 3, 1, 1, 1, 3, 3, 1, 1, 1, 3, 1, 1, 1, 3, 1, 1, 1, 3, 1, 1, 1, 3, 1, 4, 3, 1, 1, 3, 1, 1, 3, 3, 2, 3, 2, 3, 2, 3, 2, 3, 2, 3, 2, 0, 0, 0, 0, 3, 1, 1, 1, 1, 1, 1, 1, 1, 1, 1, 1, 1, 1, 1, 1, 1, 1, 1, 1, 1, 1, 1, 1, 1, 1, 1, 1, 1, 1, 1, 1, 1, 1, 1, 1, 1, 1, 1, 1, 1, 1, 1, 1, 1, 2, 2]
def mF : List (List Nat) := [[11, 18, 25, 32, 49, 1, 66, 68, 1, 69, 72, 74, 75], [1, 12, 13, 14, 15, 16, 1, 1, 2, 17], [], [], [], [], [], [], [1, 19, 20, 21, 22, 23, 1, 1, 2, 24], [], [], [], [], [], [], [1, 26, 27, 28, 29, 30, 1, 1, 2, 31], [], [], [], [], [], [], [33, 37, 41, 45], [1, 1, 34, 35, 36], [], [], [], [1, 1, 38, 39, 40], [], [], [], [1, 1, 42, 43, 44], [], [], [], [1, 1, 46, 47, 48], [], [], [], [50, 54, 58, 62], [1, 1, 51, 52, 53], [], [], [], [1, 1, 55, 56, 57], [], [], [], [1, 1, 59, 60, 61], [], [], [], [1, 1, 63, 64, 65], [], [], [], [67, 1, 1, 3], [], [], [3, 1, 1, 70, 1, 1, 71], [], [], [1, 1, 1, 1, 73], [], [], [76, 78, 80, 82, 84, 86], [1, 1, 77], [], [1, 1, 79], [], [1, 1, 81], [], [1, 1, 83], [], [1, 1, 85], [], [1, 1, 87], [], [], [], [], [], [1, 1, 1, 93, 94, 95, 96, 97, 1, 1, 1, 1, 1, 98, 99, 100, 101, 102, 103, 104, 105, 1, 1, 1, 106, 107, 1, 1, 1, 108, 109, 110, 111, 112, 1, 113, 1, 114, 115, 116, 1, 1, 117, 118, 119, 120, 1, 1, 1, 1, 1, 1, 1, 1, 1, 121, 122, 123, 124, 125, 126, 127, 128, 129, 130, 131, 132, 133, 1, 134, 135, 136, 137, 138], [], [], [], [], [], [], [], [], [], [], [], [], [], [], [], [], [], [], [], [], [], [], [], [], [], [], [], [], [], [], [], [], [], [], [], [], [], [], [], [], [], [], [], [], [], []]
def mty (a : Nat) : Nat := mT.getD a 0
def mfc (a k : Nat) : Nat := (mF.getD a []).getD k 0
/-- null for 0 -/
def nz (z : Int) : Value := if z = 0 then .null else .ref z.toNat
def mof (B : q_Bv) (G : q_Gi) (a k : Nat) : Nat → Value
  | 0 => B a k
  | 1 => vI (G a k)
  | 2 => .ref (G a k).toNat
  | 3 => nz (G a k)
  | c + 4 => .ref (c - 6)
def mm (B : q_Bv) (G : q_Gi) : Nat → Nat → Value := fun a k => match mty a with
  | 0 => B a k
  | 1 => vI (G a k)
  | 2 => vL (G a k)
  | 3 => mof B G a k (mfc a k)
  | _ => nz (G a k)
/-- the heap: N cells beside the first 129 -/
def hp (N L : Nat) (B : q_Bv) (G : q_Gi) : q_H := (N + 129, L, mm B G)
def ug (G : q_Gi) (a k : Nat) (z : Int) : q_Gi := fun b j => if b = a ∧ j = k then z else G b j
def cpG (G : q_Gi) (s p t r n : Nat) : q_Gi := fun b j => if b = t ∧ r ≤ j ∧ j < r + n then G s (p + (j - r)) else G b j
theorem ug_at {G : q_Gi} {a k : Nat} {z : Int} : ug G a k z a k = z := by simp [ug]
theorem ug_ne {G : q_Gi} {a k b : Nat} {z : Int} (h : b ≠ a) : ug G a k z b = G b := by funext j; simp [ug, h]
theorem ug_k {G : q_Gi} {a k b j : Nat} {z : Int} (h : j ≠ k) : ug G a k z b j = G b j := by simp [ug, h]
theorem ug_b {G : q_Gi} {a k b j : Nat} {z : Int} : ug G a k z b j = if b = a ∧ j = k then z else G b j := rfl
theorem mm_i {B : q_Bv} {G : q_Gi} {a k : Nat} (h : mty a = 1) : mm B G a k = vI (G a k) := by simp only [mm, h]
theorem mm_l {B : q_Bv} {G : q_Gi} {a k : Nat} (h : mty a = 2) : mm B G a k = vL (G a k) := by simp only [mm, h]
theorem mm_n {B : q_Bv} {G : q_Gi} {a k : Nat} (h : mty a = 4) : mm B G a k = nz (G a k) := by simp only [mm, h]
theorem mm_r {B : q_Bv} {G : q_Gi} {a k : Nat} (h : mty a = 0) : mm B G a k = B a k := by simp only [mm, h]
theorem mm_f1 {B : q_Bv} {G : q_Gi} {a k : Nat} (h : mty a = 3) (h2 : mfc a k = 1) : mm B G a k = vI (G a k) := by simp only [mm, h, h2, mof]
theorem mm_f2 {B : q_Bv} {G : q_Gi} {a k : Nat} (h : mty a = 3) (h2 : mfc a k = 2) : mm B G a k = .ref (G a k).toNat := by simp only [mm, h, h2, mof]
theorem mm_f3 {B : q_Bv} {G : q_Gi} {a k : Nat} (h : mty a = 3) (h2 : mfc a k = 3) : mm B G a k = nz (G a k) := by simp only [mm, h, h2, mof]
theorem mm_fc {B : q_Bv} {G : q_Gi} {a k c : Nat} (h : mty a = 3) (h2 : mfc a k = c + 10) : mm B G a k = .ref c := by
  simp only [mm, h, h2, mof]
  congr 1
theorem mty_raw {a : Nat} (h : 129 ≤ a) : mty a = 0 := by
  unfold mty
  rw [List.getD_eq_getElem?_getD, List.getElem?_eq_none (by rw [show mT.length = 129 from rfl]; omega)]
  rfl
/-- a place whose value is told by G alone: a write of what z tells keeps the form -/
theorem up_mm {B : q_Bv} {G : q_Gi} {a k : Nat} {z : Int} {v : Value} (h : mty a ≠ 0) (h3 : mty a = 3 → mfc a k ≠ 0 ∧ mfc a k < 4) (hv : mm B (ug G a k z) a k = v) : up (mm B G) a k v = mm B (ug G a k z) := by
  subst hv
  funext b j
  unfold up
  by_cases hb : b = a ∧ j = k
  · rw [if_pos hb, hb.1, hb.2]
  · rw [if_neg hb]
    have e : ug G a k z b j = G b j := by unfold ug; rw [if_neg hb]
    unfold mm
    split
    · rfl
    · rw [e]
    · rw [e]
    · unfold mof
      split
      · rfl
      · rw [e]
      · rw [e]
      · rw [e]
      · rfl
    · rw [e]
theorem up_i {B : q_Bv} {G : q_Gi} {a k : Nat} {z : Int} (h : mty a = 1) : up (mm B G) a k (vI z) = mm B (ug G a k z) := up_mm (by omega) (by omega) (by rw [mm_i h, ug_at])
theorem up_l {B : q_Bv} {G : q_Gi} {a k : Nat} {z : Int} (h : mty a = 2) : up (mm B G) a k (vL z) = mm B (ug G a k z) := up_mm (by omega) (by omega) (by rw [mm_l h, ug_at])
theorem up_f1 {B : q_Bv} {G : q_Gi} {a k : Nat} {z : Int} (h : mty a = 3) (h2 : mfc a k = 1) : up (mm B G) a k (vI z) = mm B (ug G a k z) := up_mm (by omega) (by omega) (by rw [mm_f1 h h2, ug_at])
theorem up_f2 {B : q_Bv} {G : q_Gi} {a k b : Nat} (h : mty a = 3) (h2 : mfc a k = 2) : up (mm B G) a k (.ref b) = mm B (ug G a k (b : Int)) := up_mm (by omega) (by omega) (by rw [mm_f2 h h2, ug_at, Int.toNat_natCast])
theorem up_f3 {B : q_Bv} {G : q_Gi} {a k b : Nat} (h : mty a = 3) (h2 : mfc a k = 3) (hb : b ≠ 0) : up (mm B G) a k (.ref b) = mm B (ug G a k (b : Int)) := up_mm (by omega) (by omega) (by
  rw [mm_f3 h h2, ug_at, nz, if_neg (by omega), Int.toNat_natCast])
theorem up_n {B : q_Bv} {G : q_Gi} {a k b : Nat} (h : mty a = 4) (hb : b ≠ 0) : up (mm B G) a k (.ref b) = mm B (ug G a k (b : Int)) := up_mm (by omega) (by omega) (by
  rw [mm_n h, ug_at, nz, if_neg (by omega), Int.toNat_natCast])
theorem up_r {B : q_Bv} {G : q_Gi} {a k : Nat} {v : Value} (h : mty a = 0) : up (mm B G) a k v = mm (up B a k v) G := by
  funext b j
  unfold up mm
  by_cases hb : b = a ∧ j = k
  · rw [if_pos hb, hb.1]
    simp only [h]
    rw [if_pos ⟨trivial, hb.2⟩]
  · rw [if_neg hb]
    split
    · exact (if_neg hb).symm
    · rfl
    · rfl
    · unfold mof
      split
      · exact (if_neg hb).symm
      · rfl
      · rfl
      · rfl
      · rfl
    · rfl
theorem cpy_mm {B : q_Bv} {G : q_Gi} {s p t r n m : Nat} (hs : mty s = m) (ht : mty t = m) (hm : m = 1 ∨ m = 2) : cpy (mm B G) s p t r n = mm B (cpG G s p t r n) := by
  funext b j
  unfold cpy
  by_cases hb : b = t ∧ r ≤ j ∧ j < r + n
  · rw [if_pos hb]
    obtain ⟨rfl, h2⟩ := hb
    have e : cpG G s p b r n b j = G s (p + (j - r)) := by unfold cpG; rw [if_pos ⟨rfl, h2⟩]
    rcases hm with rfl | rfl
    · rw [mm_i hs, mm_i ht, e]
    · rw [mm_l hs, mm_l ht, e]
  · rw [if_neg hb]
    have e : cpG G s p t r n b j = G b j := by unfold cpG; rw [if_neg hb]
    unfold mm
    split
    · rfl
    · rw [e]
    · rw [e]
    · unfold mof
      split
      · rfl
      · rw [e]
      · rw [e]
      · rw [e]
      · rfl
    · rw [e]
theorem fits_i {B : q_Bv} {G : q_Gi} {a k : Nat} (h : mty a = 1) : fits .int (mm B G a k) = true := by rw [mm_i h]; rfl
theorem fits_l {B : q_Bv} {G : q_Gi} {a k : Nat} (h : mty a = 2) : fits .long (mm B G a k) = true := by rw [mm_l h]; rfl
