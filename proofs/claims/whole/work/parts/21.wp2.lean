/-! the calculus, second part: longs, switches, new cells, calls -/
theorem up_at {M : Nat → Nat → Value} {a k : Nat} {v : Value} : up M a k v a k = v := by simp [up]
theorem up_ne {M : Nat → Nat → Value} {a k b : Nat} {v : Value} (h : b ≠ a) : up M a k v b = M b := by funext j; simp [up, h]
theorem up_k {M : Nat → Nat → Value} {a k b j : Nat} {v : Value} (h : j ≠ k) : up M a k v b j = M b j := by simp [up, h]
theorem up_b {M : Nat → Nat → Value} {a k b j : Nat} {v : Value} : up M a k v b j = if b = a ∧ j = k then v else M b j := rfl
/-- a new cell a, its places hold f -/
def mk (M : Nat → Nat → Value) (a : Nat) (f : Nat → Value) : Nat → Nat → Value := fun b j => if b = a then f j else M b j
theorem mk_at {M : Nat → Nat → Value} {a : Nat} {f : Nat → Value} : mk M a f a = f := by funext j; simp [mk]
theorem mk_ne {M : Nat → Nat → Value} {a b : Nat} {f : Nat → Value} (h : b ≠ a) : mk M a f b = M b := by funext j; simp [mk, h]
/-- n places of cell s from p on come to cell t from r on -/
def cpy (M : Nat → Nat → Value) (s p t r n : Nat) : Nat → Nat → Value := fun b j => if b = t ∧ r ≤ j ∧ j < r + n then M s (p + (j - r)) else M b j
theorem vI_cat (z : Int) : (vI z).category = 1 := rfl
theorem i2l_t {a : Int} (h : -2147483648 ≤ a ∧ a ≤ 2147483647) : (Int32.ofInt a).toInt64 = Int64.ofInt a := by
  apply Int64.toInt_inj.mp
  rw [Int32.toInt_toInt64, i32_t h, i64_t (by omega)]
theorem lg_cmp_t {a b : Int} (ha : -9223372036854775808 ≤ a ∧ a ≤ 9223372036854775807) (hb : -9223372036854775808 ≤ b ∧ b ≤ 9223372036854775807) : lg_cmp (Int64.ofInt a) (Int64.ofInt b) = Int32.ofInt (if b < a then 1 else if a = b then 0 else -1) := by
  have h1 : (Int64.ofInt b < Int64.ofInt a) ↔ b < a := by rw [Int64.lt_iff_toInt_lt, i64_t ha, i64_t hb]
  have h2 : (Int64.ofInt a = Int64.ofInt b) ↔ a = b := by rw [← Int64.toInt_inj, i64_t ha, i64_t hb]
  unfold lg_cmp
  simp only [gt_iff_lt, h1, h2]
  split
  · rfl
  · split <;> rfl
def cmpz (a b : Int) : Int := if b < a then 1 else if a = b then 0 else -1
theorem q_wt_le {st : List Value} : q_wt st ≤ 2 * st.length := by
  unfold q_wt
  induction st with
  | nil => simp
  | cons v st ih =>
    have h : v.category ≤ 2 := by cases v <;> first | exact Nat.le_succ 1 | exact Nat.le_refl 2
    simp only [List.map_cons, List.sum_cons, List.length_cons]
    omega
section WPJ
variable {d y pc n : Nat} {ls st : List Value} {N L : Nat} {M : Nat → Nat → Value} {X : q_H} {Q : Option Value → q_H → Prop}
theorem w_i2l {a : Int} (hf : q_fetch y pc = some (.i2l, n)) (ha : -2147483648 ≤ a ∧ a ≤ 2147483647) : WP d y pc ls (vI a :: st) X Q = WP d y (pc + 1) ls (vL a :: st) X Q := w_step hf fun _ => by simp only [q_step, q_i2l, vI, i2l_t ha]; rfl
theorem w_l2i {a : Int} (hf : q_fetch y pc = some (.l2i, n)) : WP d y pc ls (vL a :: st) X Q = WP d y (pc + 1) ls (vI (l2i a) :: st) X Q := w_step hf fun _ => by simp only [q_step, q_l2i, vL, l2i, vI_t]
theorem w_lcmp {a b : Int} (hf : q_fetch y pc = some (.lcmp, n)) (ha : -9223372036854775808 ≤ a ∧ a ≤ 9223372036854775807) (hb : -9223372036854775808 ≤ b ∧ b ≤ 9223372036854775807) : WP d y pc ls (vL b :: vL a :: st) X Q = WP d y (pc + 1) ls (vI (cmpz a b) :: st) X Q := w_step hf fun _ => by simp only [q_step, q_lcmp, vL, lg_cmp_t ha hb]; rfl
theorem w_lshl {a b : Int} (hf : q_fetch y pc = some (.lshl, n)) : WP d y pc ls (vI b :: vL a :: st) X Q = WP d y (pc + 1) ls (vL (lshl a b) :: st) X Q := w_step hf fun _ => by simp only [q_step, q_lshl, vI, vL, lshl, Int64.ofInt_toInt]
theorem w_land {a b : Int} (hf : q_fetch y pc = some (.land, n)) : WP d y pc ls (vL b :: vL a :: st) X Q = WP d y (pc + 1) ls (vL (land a b) :: st) X Q := w_step hf fun _ => by simp only [q_step, q_binl, vL, land, Int64.ofInt_toInt]
theorem w_lor {a b : Int} (hf : q_fetch y pc = some (.lor, n)) : WP d y pc ls (vL b :: vL a :: st) X Q = WP d y (pc + 1) ls (vL (lor a b) :: st) X Q := w_step hf fun _ => by simp only [q_step, q_binl, vL, lor, Int64.ofInt_toInt]
theorem w_ifnn0 {o : Int} (hf : q_fetch y pc = some (.ifnonnull o, n)) : WP d y pc ls (.null :: st) X Q = WP d y (pc + 3) ls st X Q := w_step hf fun _ => rfl
theorem w_ifnn1 {o : Int} {t a : Nat} (hf : q_fetch y pc = some (.ifnonnull o, n)) (ht : 0 ≤ (pc : Int) + o ∧ ((pc : Int) + o).toNat = t) (ha : a ≠ 1004) : WP d y pc ls (.ref a :: st) X Q = WP d y t ls st X Q := w_step hf fun _ => by simp only [q_step, q_ifnn, if_neg ha, q_jmp, ht.1, if_true, ht.2]
theorem w_new {i ci m u v : Nat} {x : Value} (hf : q_fetch y pc = some (.new i, n)) (hp : q_pool (q_mo y) i = some (5, ci, u, x)) (hN : N < 1000) (hc : ci < 10) (hm : (q_cl.getD ci (q_R0, q_T0, 0)).2.2 = v) (hs : q_sh N = (ci, m)) (hv : v = m) : WP d y pc ls st (N, L, M) Q = WP d y (pc + 3) ls (.ref N :: st) (N + 1, L, mk M N (fun j => defaultValue (q_ty ci j))) Q := w_step hf fun _ => by
  have hs2 : q_sh N = (ci, (q_cl.getD ci (q_R0, q_T0, 0)).2.2) := by rw [hs, hm, hv]
  simp only [q_step, q_new, hp, hN, hc, hs2, and_self, if_true, q_mk]; rfl
theorem w_newa {t : ArrayType} {z : Int} {k : Nat} (hf : q_fetch y pc = some (.newarray t, n)) (hk : q_ak t = k) (hk2 : k ≠ 99) (hN : N < 1000) (hz : 0 ≤ z ∧ z < 100000) (hs : q_sh N = (k, z.toNat)) : WP d y pc ls (vI z :: st) (N, L, M) Q = WP d y (pc + 2) ls (.ref N :: st) (N + 1, L, mk M N (fun _ => defaultValue (q_aty k))) Q := w_step hf fun _ => by
  subst hk
  have h1 : (Int32.ofInt z).toInt = z := i32_t (by omega)
  simp only [q_step, q_newa, vI, h1, hN, hz.1, hz.2, hk2, hs, ne_eq, not_false_eq_true, and_self, if_true, q_mk]; rfl
theorem w_newr {i ci u : Nat} {x : Value} {z : Int} (hf : q_fetch y pc = some (.anewarray i, n)) (hp : q_pool (q_mo y) i = some (5, ci, u, x)) (hc : ci = 7 ∨ ci = 6) (hN : N < 1000) (hz : 0 ≤ z ∧ z < 100000) (hs : q_sh N = (27 - ci, z.toNat)) : WP d y pc ls (vI z :: st) (N, L, M) Q = WP d y (pc + 3) ls (.ref N :: st) (N + 1, L, mk M N (fun _ => .null)) Q := w_step hf fun _ => by
  have h1 : (Int32.ofInt z).toInt = z := i32_t (by omega)
  simp only [q_step, q_newr, hp, vI, h1, hN, hz.1, hz.2, hc, hs, and_self, if_true, q_mk]; rfl
theorem w_tsw {D lo hi z : Int} {os : Array Int} {o : Int} {t : Nat} (hf : q_fetch y pc = some (.tableswitch D lo hi os, n)) (hz : -2147483648 ≤ z ∧ z ≤ 2147483647) (hr : lo ≤ z ∧ z ≤ hi) (ho : os[(z - lo).toNat]? = some o) (ht : 0 ≤ (pc : Int) + o ∧ ((pc : Int) + o).toNat = t) : WP d y pc ls (vI z :: st) X Q = WP d y t ls st X Q := w_step hf fun _ => by
  have h : ¬ (z < lo ∨ hi < z) := by omega
  simp only [q_step, q_tsw, vI, i32_t hz, if_neg h, ho, q_jmp, ht.1, if_true, ht.2]
theorem w_tswd {D lo hi z : Int} {os : Array Int} {t : Nat} (hf : q_fetch y pc = some (.tableswitch D lo hi os, n)) (hz : -2147483648 ≤ z ∧ z ≤ 2147483647) (hr : z < lo ∨ hi < z) (ht : 0 ≤ (pc : Int) + D ∧ ((pc : Int) + D).toNat = t) : WP d y pc ls (vI z :: st) X Q = WP d y t ls st X Q := w_step hf fun _ => by
  simp only [q_step, q_tsw, vI, i32_t hz, if_pos hr, q_jmp, ht.1, if_true, ht.2]
theorem w_lsw {D z o : Int} {ps : Array (Int × Int)} {t : Nat} (hf : q_fetch y pc = some (.lookupswitch D ps, n)) (hz : -2147483648 ≤ z ∧ z ≤ 2147483647) (hs : (ps.toList.zip (ps.toList.drop 1)).all (fun (a, next) => a.1 < next.1) = true) (ho : Op.lookupswitch.offset ps.toList D z = o) (ht : 0 ≤ (pc : Int) + o ∧ ((pc : Int) + o).toNat = t) : WP d y pc ls (vI z :: st) X Q = WP d y t ls st X Q := w_step hf fun _ => by
  subst ho
  simp only [q_step, q_lsw, vI, i32_t hz, hs, if_true, q_jmp, ht.1, ht.2]
theorem w_max {a b : Int} {i u v : Nat} {x : Value} (hf : q_fetch y pc = some (.invokestatic i, n)) (hp : q_pool (q_mo y) i = some (20, u, v, x)) (ha : -2147483648 ≤ a ∧ a ≤ 2147483647) (hb : -2147483648 ≤ b ∧ b ≤ 2147483647) (hw : st.length ≤ 4) : WP d y pc ls (vI b :: vI a :: st) X Q = WP d y (pc + 3) ls (vI (max a b) :: st) X Q := w_step hf fun _ => by
  have h : q_wt st ≤ 8 := by have := @q_wt_le st; omega
  have h2 : q_imax (Int32.ofInt a) (Int32.ofInt b) = Int32.ofInt (max a b) := by
    unfold q_imax
    rw [i32_t ha, i32_t hb]
    split
    · rw [show max a b = b by omega]
    · rw [show max a b = a by omega]
  simp only [q_step, q_ins, hp, q_mat2, vI, h, if_true, h2]
theorem w_min {a b : Int} {i u v : Nat} {x : Value} (hf : q_fetch y pc = some (.invokestatic i, n)) (hp : q_pool (q_mo y) i = some (21, u, v, x)) (ha : -2147483648 ≤ a ∧ a ≤ 2147483647) (hb : -2147483648 ≤ b ∧ b ≤ 2147483647) (hw : st.length ≤ 4) : WP d y pc ls (vI b :: vI a :: st) X Q = WP d y (pc + 3) ls (vI (min a b) :: st) X Q := w_step hf fun _ => by
  have h : q_wt st ≤ 8 := by have := @q_wt_le st; omega
  have h2 : q_imin (Int32.ofInt a) (Int32.ofInt b) = Int32.ofInt (min a b) := by
    unfold q_imin
    rw [i32_t ha, i32_t hb]
    split
    · rw [show min a b = b by omega]
    · rw [show min a b = a by omega]
  simp only [q_step, q_ins, hp, q_mat2, vI, h, if_true, h2]
theorem w_abs {a : Int} {i u v : Nat} {x : Value} (hf : q_fetch y pc = some (.invokestatic i, n)) (hp : q_pool (q_mo y) i = some (22, u, v, x)) (ha : -2147483648 < a ∧ a ≤ 2147483647) (hw : st.length ≤ 4) : WP d y pc ls (vI a :: st) X Q = WP d y (pc + 3) ls (vI (a.natAbs : Int) :: st) X Q := w_step hf fun _ => by
  have h : q_wt st ≤ 8 := by have := @q_wt_le st; omega
  have h2 : q_iabs (Int32.ofInt a) = Int32.ofInt (a.natAbs : Int) := by
    unfold q_iabs
    rw [i32_t (by omega)]
    split
    · rw [show (a.natAbs : Int) = a by omega]
    · rw [show (a.natAbs : Int) = 0 - a by omega, Int32.ofInt_sub]
      rfl
  simp only [q_step, q_ins, hp, q_mat1, vI, h, if_true, h2]
/-- Object's constructor -/
theorem w_obj {i u v a : Nat} {x : Value} (hf : q_fetch y pc = some (.invokespecial i, n)) (hp : q_pool (q_mo y) i = some (11, u, v, x)) (ha : a ≠ 1004) (hw : st.length ≤ 4) : WP d y pc ls (.ref a :: st) X Q = WP d y (pc + 3) ls st X Q := w_step hf fun _ => by
  have h : q_wt st ≤ 8 := by have := @q_wt_le st; omega
  simp only [q_step, q_inp, hp, ne_eq, ha, not_false_eq_true, h, and_self, if_true]
theorem w_calls {i z m : Nat} {x : Value} {rv : Option Value} {vs : List Value} {X' : q_H} (hf : q_fetch y pc = some (.invokestatic i, n)) (hp : q_pool (q_mo y) i = some (3, z, m, x)) (hm : vs.length = m) (hw : st.length ≤ 4) (hS : Sp d z vs X rv X') : WP d y pc ls (vs.reverse ++ st) X Q = WP d y (pc + 3) ls (rv.toList ++ st) X' Q := by
  refine w_call hf (fun O => ?_) hS
  have h : q_wt st ≤ 8 := by have := @q_wt_le st; omega
  subst hm
  have h1 : (vs.reverse ++ st).drop vs.length = st := by rw [← List.length_reverse, List.drop_left]
  have h2 : (vs.reverse ++ st).take vs.length = vs.reverse := by rw [← List.length_reverse, List.take_left]
  have h3 : vs.length ≤ (vs.reverse ++ st).length := by simp
  simp only [q_step, q_ins, hp, q_calls, h1, h2, h3, h, and_self, if_true, List.reverse_reverse, q_back]
  cases O z vs X <;> rfl
theorem w_callv0 {z m a kd : Nat} {rv : Option Value} {vs : List Value} {X' : q_H} {I : Instr} (hf : q_fetch y pc = some (I, n)) (hi : ∀ O c, q_step O y I c = q_callv O z m c) (hm : vs.length = m) (hw : st.length ≤ 4) (hk : q_kd (q_mo z) = kd) (hkd : kd ≤ 10) (ha : a < X.1 ∨ 1000 ≤ a) (hs : (q_sh a).1 = kd) (hS : Sp d z (.ref a :: vs) X rv X') : WP d y pc ls (vs.reverse ++ .ref a :: st) X Q = WP d y (pc + 3) ls (rv.toList ++ st) X' Q := by
  refine w_call hf (fun O => ?_) hS
  have h : q_wt st ≤ 8 := by have := @q_wt_le st; omega
  subst hm
  have h1 : (vs.reverse ++ .ref a :: st).drop vs.length = .ref a :: st := by rw [← List.length_reverse, List.drop_left]
  have h2 : (vs.reverse ++ .ref a :: st).take vs.length = vs.reverse := by rw [← List.length_reverse, List.take_left]
  rw [hi]
  simp only [q_callv, h1, h2, h, ha, hs, hk, hkd, and_self, if_true, List.reverse_reverse, q_back]
  cases O z (.ref a :: vs) X <;> rfl
theorem w_callv {i z m a kd : Nat} {x : Value} {rv : Option Value} {vs : List Value} {X' : q_H} (hf : q_fetch y pc = some (.invokevirtual i, n)) (hp : q_pool (q_mo y) i = some (2, z, m, x)) (hm : vs.length = m) (hw : st.length ≤ 4) (hk : q_kd (q_mo z) = kd) (hkd : kd ≤ 10) (ha : a < X.1 ∨ 1000 ≤ a) (hs : (q_sh a).1 = kd) (hS : Sp d z (.ref a :: vs) X rv X') : WP d y pc ls (vs.reverse ++ .ref a :: st) X Q = WP d y (pc + 3) ls (rv.toList ++ st) X' Q := w_callv0 hf (fun O c => by simp only [q_step, q_inv, hp]) hm hw hk hkd ha hs hS
theorem w_calli {i z m a kd : Nat} {x : Value} {rv : Option Value} {vs : List Value} {X' : q_H} (hf : q_fetch y pc = some (.invokespecial i, n)) (hp : q_pool (q_mo y) i = some (4, z, m, x)) (hm : vs.length = m) (hw : st.length ≤ 4) (hk : q_kd (q_mo z) = kd) (hkd : kd ≤ 10) (ha : a < X.1 ∨ 1000 ≤ a) (hs : (q_sh a).1 = kd) (hS : Sp d z (.ref a :: vs) X rv X') : WP d y pc ls (vs.reverse ++ .ref a :: st) X Q = WP d y (pc + 3) ls (rv.toList ++ st) X' Q := w_callv0 hf (fun O c => by simp only [q_step, q_inp, hp]) hm hw hk hkd ha hs hS
theorem w_calln {i z m a kd : Nat} {x : Value} {rv : Option Value} {vs : List Value} {X' : q_H} (hf : q_fetch y pc = some (.invokespecial i, n)) (hp : q_pool (q_mo y) i = some (14, z, m, x)) (hm : vs.length = m) (hw : st.length ≤ 4) (hk : q_kd (q_mo z) = kd) (hkd : kd ≤ 10) (ha : a < X.1 ∨ 1000 ≤ a) (hs : (q_sh a).1 = kd) (hS : Sp d z (.ref a :: vs) X rv X') : WP d y pc ls (vs.reverse ++ .ref a :: st) X Q = WP d y (pc + 3) ls (rv.toList ++ st) X' Q := w_callv0 hf (fun O c => by simp only [q_step, q_inp, hp]) hm hw hk hkd ha hs hS
theorem w_copy {i u v a b k m1 m2 : Nat} {x : Value} {p r z : Int} (hf : q_fetch y pc = some (.invokestatic i, n)) (hp : q_pool (q_mo y) i = some (10, u, v, x)) (ha : a < N) (hb : b < N) (hsa : q_sh a = (k, m1)) (hsb : q_sh b = (k, m2)) (hk : 16 ≤ k ∧ k ≤ 19) (hz : 0 ≤ z) (hp0 : 0 ≤ p) (hr0 : 0 ≤ r) (h1 : p + z ≤ (m1 : Int)) (h2 : r + z ≤ (m2 : Int)) (hm1 : m1 ≤ 2147483647) (hm2 : m2 ≤ 2147483647) (hfit : ∀ i, i < z.toNat → fits (q_aty k) (M a (p.toNat + i)) = true) (hw : st.length ≤ 4) : WP d y pc ls (vI z :: vI r :: .ref b :: vI p :: .ref a :: st) (N, L, M) Q = WP d y (pc + 3) ls st (N, L, cpy M a p.toNat b r.toNat z.toNat) Q := w_step hf fun _ => by
  have h : q_wt st ≤ 8 := by have := @q_wt_le st; omega
  have e1 := @i32_t z (by omega)
  have e2 := @i32_t p (by omega)
  have e3 := @i32_t r (by omega)
  simp only [q_step, q_ins, hp, q_copy, vI, e1, e2, e3, h, ha, hb, hsa, hsb, hk.1, hk.2, hz, hp0, hr0, h1, h2, true_and, and_true, and_self]
  rw [if_pos hfit]
  rfl
end WPJ
def bI (P : Prop) [Decidable P] : Int := if P then 1 else 0
theorem bI_01 (P : Prop) [Decidable P] : bI P = 0 ∨ bI P = 1 := by unfold bI; split <;> simp
theorem bI_t {P : Prop} [Decidable P] (h : P) : bI P = 1 := if_pos h
theorem bI_f {P : Prop} [Decidable P] (h : ¬ P) : bI P = 0 := if_neg h
theorem bI_r (P : Prop) [Decidable P] : -2147483648 ≤ bI P ∧ bI P ≤ 2147483647 := by rcases bI_01 P with h | h <;> rw [h] <;> decide
theorem bI_e {P : Prop} [Decidable P] : (bI P = 0) = ¬ P := by unfold bI; split <;> simp_all
theorem nb_bool {z : Int} (h : z = 0 ∨ z = 1) : narrow .boolean (.int (Int32.ofInt z)) = .int (Int32.ofInt z) := by rcases h with rfl | rfl <;> rfl
theorem nb_byte {z : Int} (h : -128 ≤ z ∧ z ≤ 127) : narrow .byte (.int (Int32.ofInt z)) = .int (Int32.ofInt z) := by
  have h1 : (Int32.ofInt z).toInt8.toInt32 = Int32.ofInt z := by
    apply Int32.toInt_inj.mp
    rw [Int8.toInt_toInt32, Int32.toInt_toInt8, i32_t (by omega)]
    rw [Int.bmod_eq_of_le (by omega) (by omega)]
  show Value.int _ = _
  rw [h1]
theorem nb_char {z : Int} (h : 0 ≤ z ∧ z ≤ 65535) : narrow .char (.int (Int32.ofInt z)) = .int (Int32.ofInt z) := by
  have h3 : (Int32.ofInt z).toUInt32.toUInt16.toUInt32.toInt32 = Int32.ofInt z := by
    apply Int32.toBitVec_inj.mp
    apply BitVec.eq_of_toNat_eq
    simp
    omega
  show Value.int _ = _
  rw [h3]
/-- a is one of l -/
def mem (l : List Nat) (a : Nat) : Bool := l.any (fun b => a == b)
theorem mem_of {l : List Nat} {a : Nat} (h : mem l a = true) : a ∈ l := by
  unfold mem at h
  obtain ⟨b, hb, e⟩ := List.any_eq_true.mp h
  rw [eq_of_beq e]
  exact hb
theorem mem_sh {l : List Nat} {a : Nat} {k m : Nat} (hl : ∀ b, b ∈ l → q_sh b = (k, m)) (h : mem l a = true) : q_sh a = (k, m) := hl a (mem_of h)
theorem mem_sh1 {l : List Nat} {a : Nat} {k : Nat} (hl : ∀ b, b ∈ l → (q_sh b).1 = k) (h : mem l a = true) : q_sh a = (k, (q_sh a).2) := by rw [← hl a (mem_of h)]
theorem mem_k {l : List Nat} {a ci k : Nat} (hl : ∀ b, b ∈ l → isk b ci k = true) (h : mem l a = true) : isk a ci k = true := hl a (mem_of h)
theorem mem_kd {l : List Nat} {a k : Nat} (hl : ∀ b, b ∈ l → (q_sh b).1 = k) (h : mem l a = true) : (q_sh a).1 = k := hl a (mem_of h)
theorem mem_lt {l : List Nat} {a : Nat} (hl : ∀ b, b ∈ l → b ≤ 1000) (h : mem l a = true) : a ≤ 1000 := hl a (mem_of h)
theorem mem_lt2 {l : List Nat} {a : Nat} (hl : ∀ b, b ∈ l → 1000 < b) (h : mem l a = true) : 1000 < a := hl a (mem_of h)
theorem mem_lt3 {l : List Nat} {a : Nat} (hl : ∀ b, b ∈ l → b < 1000) (h : mem l a = true) : a < 1000 := hl a (mem_of h)
theorem mem_ne {l : List Nat} {a : Nat} (hl : ∀ b, b ∈ l → b ≠ 1000) (h : mem l a = true) : a ≠ 1000 := hl a (mem_of h)
theorem mem_l {l : List Nat} {a : Nat} (hl : ∀ b, b ∈ l → (q_sh b).2 ≤ 2147483647) (h : mem l a = true) : (q_sh a).2 ≤ 2147483647 := hl a (mem_of h)
theorem Sp.of1 {d y : Nat} {vs ls : List Value} {X X' : q_H} {r : Option Value} (hd : 1 ≤ d) (hl : (q_args vs).length.ble (q_ml y) = true) (he : q_entry (q_ml y) vs = ls) (h : WP (d - 1) y 0 ls [] X (fun r1 X1 => r1 = r ∧ X1 = X')) : Sp d y vs X r X' := by
  obtain ⟨e, rfl⟩ : ∃ e, d = e + 1 := ⟨d - 1, by omega⟩
  subst he
  exact Sp.of (Nat.le_of_ble_eq_true hl) h
theorem Sp.of2 {d y : Nat} {vs ls : List Value} {X : q_H} {Q : Option Value → q_H → Prop} (hd : 1 ≤ d) (hl : (q_args vs).length.ble (q_ml y) = true) (he : q_entry (q_ml y) vs = ls) (h : WP (d - 1) y 0 ls [] X Q) : ∃ r X', Sp d y vs X r X' ∧ Q r X' := by
  obtain ⟨e, rfl⟩ : ∃ e, d = e + 1 := ⟨d - 1, by omega⟩
  subst he
  exact Sp.ofE (Nat.le_of_ble_eq_true hl) h
section WPK
variable {d y pc n : Nat} {ls st : List Value} {N L : Nat} {M : Nat → Nat → Value} {X : q_H} {Q : Option Value → q_H → Prop}
theorem w_gets {i a b e : Nat} {v : Value} (hf : q_fetch y pc = some (.getstatic i, n)) (hp : q_pool (q_mo y) i = some (a, b, e, v)) (ha : (a == 6 || a == 16) = true) : WP d y pc ls st X Q = WP d y (pc + 3) ls (v :: st) X Q := w_step hf fun _ => by
  simp only [Bool.or_eq_true, beq_iff_eq] at ha
  rcases ha with rfl | rfl <;> simp only [q_step, q_gets, hp, q_push]
theorem w_ifeqb {P : Prop} [Decidable P] {o : Int} {t : Nat} (hf : q_fetch y pc = some (.ifCond .eq o, n)) (ht : 0 ≤ (pc : Int) + o ∧ ((pc : Int) + o).toNat = t) : WP d y pc ls (vI (bI P) :: st) X Q = if P then WP d y (pc + 3) ls st X Q else WP d y t ls st X Q := by
  rw [w_ifeq hf ht (bI_r P)]
  by_cases h : P
  · rw [if_pos h, if_neg (by rw [bI_t h]; decide)]
  · rw [if_neg h, if_pos (bI_f h)]
theorem w_ifneb {P : Prop} [Decidable P] {o : Int} {t : Nat} (hf : q_fetch y pc = some (.ifCond .ne o, n)) (ht : 0 ≤ (pc : Int) + o ∧ ((pc : Int) + o).toNat = t) : WP d y pc ls (vI (bI P) :: st) X Q = if P then WP d y t ls st X Q else WP d y (pc + 3) ls st X Q := by
  rw [w_ifne hf ht (bI_r P)]
  by_cases h : P
  · rw [if_pos h, if_neg (by rw [bI_t h]; decide)]
  · rw [if_neg h, if_pos (bI_f h)]
theorem bI_iff {P R : Prop} [Decidable P] [Decidable R] : (bI P = bI R) ↔ (P ↔ R) := by unfold bI; split <;> split <;> simp_all
theorem w_icmpeqb {P R : Prop} [Decidable P] [Decidable R] {o : Int} {t : Nat} (hf : q_fetch y pc = some (.if_icmp .eq o, n)) (ht : 0 ≤ (pc : Int) + o ∧ ((pc : Int) + o).toNat = t) : WP d y pc ls (vI (bI R) :: vI (bI P) :: st) X Q = if (P ↔ R) then WP d y t ls st X Q else WP d y (pc + 3) ls st X Q := by
  rw [w_icmpeq hf ht (bI_r P) (bI_r R)]
  simp only [bI_iff]
theorem w_icmpneb {P R : Prop} [Decidable P] [Decidable R] {o : Int} {t : Nat} (hf : q_fetch y pc = some (.if_icmp .ne o, n)) (ht : 0 ≤ (pc : Int) + o ∧ ((pc : Int) + o).toNat = t) : WP d y pc ls (vI (bI R) :: vI (bI P) :: st) X Q = if (P ↔ R) then WP d y (pc + 3) ls st X Q else WP d y t ls st X Q := by
  rw [w_icmpne hf ht (bI_r P) (bI_r R)]
  simp only [bI_iff]
end WPK
