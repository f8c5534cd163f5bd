/-! THE ABSTRACT MACHINE: one instruction's effect on (pc, locals, stack, heap) as an Option; runs with fuel and depth -/
/-- heap: how many cells have been made; the script's length; what each place of each cell holds -/
abbrev q_H : Type := Nat × Nat × (Nat → Nat → Value)
abbrev q_Rs : Type := Option Value × q_H
abbrev q_C : Type := Nat × List Value × List Value × q_H
abbrev q_O : Type := Nat → List Value → q_H → Option q_Rs
abbrev q_E : Type := Nat × Nat × Nat × Value
abbrev q_N : Type := Option (q_C ⊕ q_Rs)
def q_len (X : q_H) (a : Nat) : Nat := if a = 1000 then X.2.1 else (q_sh a).2
def q_rd (X : q_H) (a k : Nat) : Value := if a ≤ 1000 then X.2.2 a k else q_ro a k
def q_wr (X : q_H) (a k : Nat) (v : Value) : q_H := (X.1, X.2.1, fun b j => if b = a ∧ j = k then v else X.2.2 b j)
/-- how many slots the cells below n have -/
def q_us : Nat → Nat
  | 0 => 0
  | n + 1 => q_us n + (q_sh n).2
/-- method y's name, code, locals, answer, class -/
def q_m (y : Nat) : MethodName × ByteArray × Nat × Option FieldType × Nat := q_mL.getD y (q_y0, prog_1_method_1_code, 0, none, 0)
def q_my (y : Nat) : MethodName := (q_m y).1
def q_mc (y : Nat) : ByteArray := (q_m y).2.1
def q_ml (y : Nat) : Nat := (q_m y).2.2.1
def q_mr (y : Nat) : Option FieldType := (q_m y).2.2.2.1
def q_mo (y : Nat) : Nat := (q_m y).2.2.2.2
def q_fetch (y pc : Nat) : Option (Instr × Nat) := ((q_tabL.getD y []).find? (fun e => e.1 == pc)).map (fun e => e.2)
def q_pool (o i : Nat) : Option q_E := ((q_poolL.getD o []).find? (fun e => e.1 == i)).map (fun e => e.2)
def q_push (v : Value) (n : Nat) (c : q_C) : q_N := some (.inl (c.1 + n, c.2.1, v :: c.2.2.1, c.2.2.2))
def q_ldi (k n : Nat) (c : q_C) : q_N := match c.2.1[k]? with
  | some (.int x) => q_push (.int x) n c
  | _ => none
def q_ldl (k n : Nat) (c : q_C) : q_N := match c.2.1[k]? with
  | some (.long x) => q_push (.long x) n c
  | _ => none
def q_lda (k n : Nat) (c : q_C) : q_N := match c.2.1[k]? with
  | some (.ref x) => if x = 1004 then none else q_push (.ref x) n c
  | _ => none
/-- no long lies half under place k -/
def q_okb (ls : List Value) (k : Nat) : Bool := match k with
  | 0 => true
  | k + 1 => match ls[k]? with
    | some (.long _) => false
    | some (.double _) => false
    | _ => true
def q_set1 (ls : List Value) (k : Nat) (v : Value) : Option (List Value) := if k < ls.length ∧ q_okb ls k = true then some (ls.set k v) else none
def q_set2 (ls : List Value) (k : Nat) (v : Value) : Option (List Value) := if k + 1 < ls.length ∧ q_okb ls k = true then some ((ls.set k v).set (k + 1) .null) else none
def q_to (o : Option (List Value)) (n : Nat) (st : List Value) (c : q_C) : q_N := match o with
  | some l => some (.inl (c.1 + n, l, st, c.2.2.2))
  | none => none
def q_sti (k n : Nat) (c : q_C) : q_N := match c.2.2.1 with
  | .int x :: r => q_to (q_set1 c.2.1 k (.int x)) n r c
  | _ => none
def q_sta (k n : Nat) (c : q_C) : q_N := match c.2.2.1 with
  | .ref x :: r => if x = 1004 then none else q_to (q_set1 c.2.1 k (.ref x)) n r c
  | _ => none
def q_stl1 (k n : Nat) (c : q_C) : q_N := match c.2.2.1 with
  | .long x :: r => q_to (q_set2 c.2.1 k (.long x)) n r c
  | _ => none
def q_inc (k : Nat) (d : Int) (c : q_C) : q_N := match c.2.1[k]? with
  | some (.int x) => q_to (q_set1 c.2.1 k (.int (x + Int32.ofInt d))) 3 c.2.2.1 c
  | _ => none
def q_bin (f : Int32 → Int32 → Int32) (c : q_C) : q_N := match c.2.2.1 with
  | .int b :: .int a :: r => some (.inl (c.1 + 1, c.2.1, .int (f a b) :: r, c.2.2.2))
  | _ => none
def q_div (f : Int32 → Int32 → Int32) (c : q_C) : q_N := match c.2.2.1 with
  | .int b :: .int a :: r => if b.toInt = 0 then none else some (.inl (c.1 + 1, c.2.1, .int (f a b) :: r, c.2.2.2))
  | _ => none
def q_un (f : Int32 → Int32) (c : q_C) : q_N := match c.2.2.1 with
  | .int a :: r => some (.inl (c.1 + 1, c.2.1, .int (f a) :: r, c.2.2.2))
  | _ => none
def q_binl (f : Int64 → Int64 → Int64) (c : q_C) : q_N := match c.2.2.1 with
  | .long b :: .long a :: r => some (.inl (c.1 + 1, c.2.1, .long (f a b) :: r, c.2.2.2))
  | _ => none
def q_lshl (c : q_C) : q_N := match c.2.2.1 with
  | .int b :: .long a :: r => some (.inl (c.1 + 1, c.2.1, .long (a <<< (b.toInt64 &&& 63)) :: r, c.2.2.2))
  | _ => none
def q_lcmp (c : q_C) : q_N := match c.2.2.1 with
  | .long b :: .long a :: r => some (.inl (c.1 + 1, c.2.1, .int (lg_cmp a b) :: r, c.2.2.2))
  | _ => none
def q_i2l (c : q_C) : q_N := match c.2.2.1 with
  | .int a :: r => some (.inl (c.1 + 1, c.2.1, .long a.toInt64 :: r, c.2.2.2))
  | _ => none
def q_l2i (c : q_C) : q_N := match c.2.2.1 with
  | .long a :: r => some (.inl (c.1 + 1, c.2.1, .int a.toInt32 :: r, c.2.2.2))
  | _ => none
def q_dup (c : q_C) : q_N := match c.2.2.1 with
  | v :: r => if v.category = 1 then some (.inl (c.1 + 1, c.2.1, v :: v :: r, c.2.2.2)) else none
  | _ => none
def q_pop (c : q_C) : q_N := match c.2.2.1 with
  | v :: r => if v.category = 1 then some (.inl (c.1 + 1, c.2.1, r, c.2.2.2)) else none
  | _ => none
def q_dup2 (c : q_C) : q_N := match c.2.2.1 with
  | v :: w :: r => if v.category = 1 ∧ w.category = 1 then some (.inl (c.1 + 1, c.2.1, v :: w :: v :: w :: r, c.2.2.2)) else none
  | _ => none
/-- go to pc + off, with the stack st -/
def q_jmp (off : Int) (st : List Value) (c : q_C) : q_N := if 0 ≤ (c.1 : Int) + off then some (.inl (((c.1 : Int) + off).toNat, c.2.1, st, c.2.2.2)) else none
/-- a jump on a condition -/
def q_cj (b : Bool) (off : Int) (st : List Value) (c : q_C) : q_N := if 0 ≤ (c.1 : Int) + off then some (.inl (if b = true then ((c.1 : Int) + off).toNat else c.1 + 3, c.2.1, st, c.2.2.2)) else none
def q_cmp (o : Jvm.ClassFile.Cond) (a b : Int) : Bool := match o with
  | .eq => decide (a = b)
  | .ne => !decide (a = b)
  | .lt => decide (a < b)
  | .ge => !decide (a < b)
  | .gt => decide (b < a)
  | .le => !decide (b < a)
def q_ifc (o : Jvm.ClassFile.Cond) (off : Int) (c : q_C) : q_N := match c.2.2.1 with
  | .int a :: r => q_cj (q_cmp o a.toInt 0) off r c
  | _ => none
def q_icm (o : Jvm.ClassFile.Cond) (off : Int) (c : q_C) : q_N := match c.2.2.1 with
  | .int b :: .int a :: r => q_cj (q_cmp o a.toInt b.toInt) off r c
  | _ => none
def q_ifnn (off : Int) (c : q_C) : q_N := match c.2.2.1 with
  | .null :: r => some (.inl (c.1 + 3, c.2.1, r, c.2.2.2))
  | .ref x :: r => if x = 1004 then none else q_jmp off r c
  | _ => none
def q_tsw (d lo hi : Int) (os : Array Int) (c : q_C) : q_N := match c.2.2.1 with
  | .int a :: r => if a.toInt < lo ∨ hi < a.toInt then q_jmp d r c else match os[(a.toInt - lo).toNat]? with
    | some off => q_jmp off r c
    | none => none
  | _ => none
def q_lsw (d : Int) (ps : Array (Int × Int)) (c : q_C) : q_N := match c.2.2.1 with
  | .int a :: r => if (ps.toList.zip (ps.toList.drop 1)).all (fun (a, next) => a.1 < next.1) = true then q_jmp (Op.lookupswitch.offset ps.toList d a.toInt) r c else none
  | _ => none
/-- may a place of type ty hold v as it is -/
def q_fit (ty : FieldType) (v : Value) : Bool := match v with
  | .ref a => decide (a ≠ 1004) && fits ty (.ref a)
  | v => decide (narrow ty v = v) && fits ty v
def q_getf (P : Nat → Option q_E) (i : Nat) (c : q_C) : q_N := match P i, c.2.2.1 with
  | some (0, ci, k, _), .ref a :: r => if (a < c.2.2.2.1 ∨ 1000 ≤ a) ∧ (q_sh a).1 = ci ∧ k < (q_sh a).2 then some (.inl (c.1 + 3, c.2.1, q_rd c.2.2.2 a k :: r, c.2.2.2)) else none
  | _, _ => none
def q_putf (P : Nat → Option q_E) (own : Nat → Bool) (i : Nat) (c : q_C) : q_N := match P i, c.2.2.1 with
  | some (0, ci, k, _), v :: .ref a :: r => if a < c.2.2.2.1 ∧ ci < 10 ∧ (q_sh a).1 = ci ∧ k < (q_sh a).2 ∧ q_fit (q_ty ci k) v = true ∧ (((q_cl.getD ci (q_R0, q_T0, 0)).2.1 k).2.2.2 = false ∨ own ci = true) then some (.inl (c.1 + 3, c.2.1, r, q_wr c.2.2.2 a k v)) else none
  | _, _ => none
def q_gets (P : Nat → Option q_E) (i : Nat) (c : q_C) : q_N := match P i with
  | some (6, _, _, v) => q_push v 3 c
  | some (16, _, _, v) => q_push v 3 c
  | _ => none
def q_ald (ok : Nat → Bool) (c : q_C) : q_N := match c.2.2.1 with
  | .int j :: .ref a :: r => if (a < c.2.2.2.1 ∨ 1000 ≤ a) ∧ ok (q_sh a).1 = true ∧ 0 ≤ j.toInt ∧ j.toInt < (q_len c.2.2.2 a : Int) then some (.inl (c.1 + 1, c.2.1, q_rd c.2.2.2 a j.toInt.toNat :: r, c.2.2.2)) else none
  | _ => none
def q_sti1 (c : q_C) : q_N := match c.2.2.1 with
  | .int x :: .int j :: .ref a :: r => if a < c.2.2.2.1 ∧ (q_sh a).1 = 16 ∧ 0 ≤ j.toInt ∧ j.toInt < ((q_sh a).2 : Int) then some (.inl (c.1 + 1, c.2.1, r, q_wr c.2.2.2 a j.toInt.toNat (.int x))) else none
  | _ => none
def q_stj1 (c : q_C) : q_N := match c.2.2.1 with
  | .long x :: .int j :: .ref a :: r => if a < c.2.2.2.1 ∧ (q_sh a).1 = 17 ∧ 0 ≤ j.toInt ∧ j.toInt < ((q_sh a).2 : Int) then some (.inl (c.1 + 1, c.2.1, r, q_wr c.2.2.2 a j.toInt.toNat (.long x))) else none
  | _ => none
def q_stb1 (c : q_C) : q_N := match c.2.2.1 with
  | .int x :: .int j :: .ref a :: r => if a < c.2.2.2.1 ∧ ((q_sh a).1 = 18 ∨ (q_sh a).1 = 19) ∧ 0 ≤ j.toInt ∧ j.toInt < ((q_sh a).2 : Int) then some (.inl (c.1 + 1, c.2.1, r, q_wr c.2.2.2 a j.toInt.toNat (narrow (q_aty (q_sh a).1) (.int x)))) else none
  | _ => none
def q_str1 (c : q_C) : q_N := match c.2.2.1 with
  | .ref v :: .int j :: .ref a :: r => if a < c.2.2.2.1 ∧ v < c.2.2.2.1 ∧ (((q_sh a).1 = 20 ∧ (q_sh v).1 = 7) ∨ ((q_sh a).1 = 21 ∧ (q_sh v).1 = 6)) ∧ 0 ≤ j.toInt ∧ j.toInt < ((q_sh a).2 : Int) then some (.inl (c.1 + 1, c.2.1, r, q_wr c.2.2.2 a j.toInt.toNat (.ref v))) else none
  | _ => none
def q_alen (c : q_C) : q_N := match c.2.2.1 with
  | .ref a :: r => if (a < c.2.2.2.1 ∨ 1000 ≤ a) ∧ 16 ≤ (q_sh a).1 ∧ (q_sh a).1 ≤ 21 then some (.inl (c.1 + 1, c.2.1, .int (Int32.ofNat (q_len c.2.2.2 a)) :: r, c.2.2.2)) else none
  | _ => none
/-- the next cell is made, its places hold f -/
def q_mk (X : q_H) (f : Nat → Value) : q_H := (X.1 + 1, X.2.1, fun b j => if b = X.1 then f j else X.2.2 b j)
def q_new (P : Nat → Option q_E) (i : Nat) (c : q_C) : q_N := match P i with
  | some (5, ci, _, _) => if c.2.2.2.1 < 1000 ∧ ci < 10 ∧ q_sh c.2.2.2.1 = (ci, (q_cl.getD ci (q_R0, q_T0, 0)).2.2) then some (.inl (c.1 + 3, c.2.1, .ref c.2.2.2.1 :: c.2.2.1, q_mk c.2.2.2 (fun j => defaultValue (q_ty ci j)))) else none
  | _ => none
def q_ak (t : ArrayType) : Nat := match t with
  | .int => 16
  | .long => 17
  | .byte => 18
  | .boolean => 19
  | _ => 99
def q_newa (t : ArrayType) (c : q_C) : q_N := match c.2.2.1 with
  | .int n :: r => if c.2.2.2.1 < 1000 ∧ 0 ≤ n.toInt ∧ q_ak t ≠ 99 ∧ n.toInt < 100000 ∧ q_sh c.2.2.2.1 = (q_ak t, n.toInt.toNat) then some (.inl (c.1 + 2, c.2.1, .ref c.2.2.2.1 :: r, q_mk c.2.2.2 (fun _ => defaultValue (q_aty (q_ak t))))) else none
  | _ => none
def q_newr (P : Nat → Option q_E) (i : Nat) (c : q_C) : q_N := match P i, c.2.2.1 with
  | some (5, ci, _, _), .int n :: r => if c.2.2.2.1 < 1000 ∧ 0 ≤ n.toInt ∧ n.toInt < 100000 ∧ (ci = 7 ∨ ci = 6) ∧ q_sh c.2.2.2.1 = (27 - ci, n.toInt.toNat) then some (.inl (c.1 + 3, c.2.1, .ref c.2.2.2.1 :: r, q_mk c.2.2.2 (fun _ => .null))) else none
  | _, _ => none
def q_ldc (P : Nat → Option q_E) (i n : Nat) (c : q_C) : q_N := match P i with
  | some (7, _, _, v) => q_push v n c
  | some (9, a, _, _) => if n = 2 then q_push (.ref a) n c else none
  | _ => none
def q_ldc2 (P : Nat → Option q_E) (i : Nat) (c : q_C) : q_N := match P i with
  | some (8, _, _, v) => q_push v 3 c
  | _ => none
def q_wt (st : List Value) : Nat := (st.map (fun v => v.category)).sum
/-- behind a call: the answer on the stack's rest -/
def q_back (r : Option q_Rs) (rest : List Value) (c : q_C) : q_N := match r with
  | some (v, X) => some (.inl (c.1 + 3, c.2.1, v.toList ++ rest, X))
  | none => none
def q_calls (O : q_O) (y n : Nat) (c : q_C) : q_N := if n ≤ c.2.2.1.length ∧ q_wt (c.2.2.1.drop n) ≤ 8 then q_back (O y (c.2.2.1.take n).reverse c.2.2.2) (c.2.2.1.drop n) c else none
def q_callv (O : q_O) (y n : Nat) (c : q_C) : q_N := match c.2.2.1.drop n with
  | .ref a :: rest => if q_wt rest ≤ 8 ∧ (a < c.2.2.2.1 ∨ 1000 ≤ a) ∧ (q_sh a).1 = q_kd (q_mo y) ∧ (q_sh a).1 ≤ 10 then q_back (O y (.ref a :: (c.2.2.1.take n).reverse) c.2.2.2) rest c else none
  | _ => none
def q_copy (c : q_C) : q_N := match c.2.2.1 with
  | .int n :: .int dp :: .ref d :: .int sp :: .ref a :: r => if q_wt r ≤ 8 ∧ a < c.2.2.2.1 ∧ d < c.2.2.2.1 ∧ (q_sh a).1 = (q_sh d).1 ∧ 16 ≤ (q_sh a).1 ∧ (q_sh a).1 ≤ 19 ∧ 0 ≤ n.toInt ∧ 0 ≤ sp.toInt ∧ 0 ≤ dp.toInt ∧ sp.toInt + n.toInt ≤ ((q_sh a).2 : Int) ∧ dp.toInt + n.toInt ≤ ((q_sh d).2 : Int) ∧ (∀ i, i < n.toInt.toNat → fits (q_aty (q_sh a).1) (c.2.2.2.2.2 a (sp.toInt.toNat + i)) = true) then
      some (.inl (c.1 + 3, c.2.1, r, (c.2.2.2.1, c.2.2.2.2.1, fun b j => if b = d ∧ dp.toInt.toNat ≤ j ∧ j < dp.toInt.toNat + n.toInt.toNat then c.2.2.2.2.2 a (sp.toInt.toNat + (j - dp.toInt.toNat)) else c.2.2.2.2.2 b j))) else none
  | _ => none
/-- Math.max, min, abs -/
def q_imax (a b : Int32) : Int32 := if a.toInt < b.toInt then b else a
def q_imin (a b : Int32) : Int32 := if b.toInt < a.toInt then b else a
def q_iabs (a : Int32) : Int32 := if 0 ≤ a.toInt then a else 0 - a
def q_mat2 (f : Int32 → Int32 → Int32) (c : q_C) : q_N := match c.2.2.1 with
  | .int b :: .int a :: r => if q_wt r ≤ 8 then some (.inl (c.1 + 3, c.2.1, .int (f a b) :: r, c.2.2.2)) else none
  | _ => none
def q_mat1 (f : Int32 → Int32) (c : q_C) : q_N := match c.2.2.1 with
  | .int a :: r => if q_wt r ≤ 8 then some (.inl (c.1 + 3, c.2.1, .int (f a) :: r, c.2.2.2)) else none
  | _ => none
def q_inv (O : q_O) (P : Nat → Option q_E) (i : Nat) (c : q_C) : q_N := match P i with
  | some (2, y, n, _) => q_callv O y n c
  | _ => none
def q_ins (O : q_O) (P : Nat → Option q_E) (i : Nat) (c : q_C) : q_N := match P i with
  | some (3, y, n, _) => q_calls O y n c
  | some (10, _, _, _) => q_copy c
  | some (20, _, _, _) => q_mat2 q_imax c
  | some (21, _, _, _) => q_mat2 q_imin c
  | some (22, _, _, _) => q_mat1 q_iabs c
  | _ => none
def q_inp (O : q_O) (P : Nat → Option q_E) (i : Nat) (c : q_C) : q_N := match P i with
  | some (4, y, n, _) => q_callv O y n c
  | some (14, y, n, _) => q_callv O y n c
  | some (11, _, _, _) => match c.2.2.1 with
    | .ref x :: r => if x ≠ 1004 ∧ q_wt r ≤ 8 then some (.inl (c.1 + 3, c.2.1, r, c.2.2.2)) else none
    | _ => none
  | _ => none
def q_iret (rt : Option FieldType) (c : q_C) : q_N := match rt, c.2.2.1 with
  | some t, [.int v] => if narrow t (.int v) = .int v then some (.inr (some (.int v), c.2.2.2)) else none
  | _, _ => none
def q_lret (rt : Option FieldType) (c : q_C) : q_N := match rt, c.2.2.1 with
  | some .long, [.long v] => some (.inr (some (.long v), c.2.2.2))
  | _, _ => none
def q_vret (rt : Option FieldType) (c : q_C) : q_N := match rt, c.2.2.1 with
  | none, [] => some (.inr (none, c.2.2.2))
  | _, _ => none
/-- a constructor may write the final fields of its own class -/
def q_ownf (y ci : Nat) : Bool := ((q_my y).name == "<init>") && (q_kd (q_mo y) == ci)
def q_step (O : q_O) (y : Nat) (i : Instr) (c : q_C) : q_N := match i with
  | .aaload => q_ald (fun k => k == 20 || k == 21) c
  | .aastore => q_str1 c
  | .aload k => q_lda k 2 c
  | .aload_n k => q_lda k.1 1 c
  | .anewarray k => q_newr (q_pool (q_mo y)) k c
  | .arraylength => q_alen c
  | .astore k => q_sta k 2 c
  | .astore_n k => q_sta k.1 1 c
  | .baload => q_ald (fun k => k == 18 || k == 19) c
  | .bastore => q_stb1 c
  | .bipush n => q_push (.int (Int8.ofInt n).toInt32) 2 c
  | .dup => q_dup c
  | .dup2 => q_dup2 c
  | .getfield k => q_getf (q_pool (q_mo y)) k c
  | .getstatic k => q_gets (q_pool (q_mo y)) k c
  | .goto o => q_jmp o c.2.2.1 c
  | .i2b => q_un (fun x => x.toInt8.toInt32) c
  | .i2c => q_un (fun x => (x.toUInt32 % 65536).toInt32) c
  | .i2l => q_i2l c
  | .i2s => q_un (fun x => x.toInt16.toInt32) c
  | .iadd => q_bin (fun a b => a + b) c
  | .iaload => q_ald (fun k => k == 16) c
  | .iand => q_bin (fun a b => a &&& b) c
  | .iastore => q_sti1 c
  | .iconst n => q_push (.int (Int32.ofInt n)) 1 c
  | .idiv => q_div (fun a b => a / b) c
  | .if_icmp o k => q_icm o k c
  | .ifCond o k => q_ifc o k c
  | .ifnonnull k => q_ifnn k c
  | .iinc k n => q_inc k n c
  | .iload k => q_ldi k 2 c
  | .iload_n k => q_ldi k.1 1 c
  | .imul => q_bin (fun a b => a * b) c
  | .ineg => q_un (fun a => -a) c
  | .invokespecial k => q_inp O (q_pool (q_mo y)) k c
  | .invokestatic k => q_ins O (q_pool (q_mo y)) k c
  | .invokevirtual k => q_inv O (q_pool (q_mo y)) k c
  | .ior => q_bin (fun a b => a ||| b) c
  | .irem => q_div (fun a b => a - a / b * b) c
  | .ireturn => q_iret (q_mr y) c
  | .ishl => q_bin (fun a b => a <<< (b &&& 31)) c
  | .ishr => q_bin (fun a b => a >>> (b &&& 31)) c
  | .istore k => q_sti k 2 c
  | .istore_n k => q_sti k.1 1 c
  | .isub => q_bin (fun a b => a - b) c
  | .iushr => q_bin (fun a b => (a.toUInt32 >>> (b.toUInt32 &&& Int32.toUInt32 31)).toInt32) c
  | .ixor => q_bin (fun a b => a ^^^ b) c
  | .l2i => q_l2i c
  | .laload => q_ald (fun k => k == 17) c
  | .land => q_binl (fun a b => a &&& b) c
  | .lastore => q_stj1 c
  | .lcmp => q_lcmp c
  | .lconst k => q_push (.long (Int64.ofNat k.1)) 1 c
  | .ldc k => q_ldc (q_pool (q_mo y)) k 2 c
  | .ldc_w k => q_ldc (q_pool (q_mo y)) k 3 c
  | .ldc2_w k => q_ldc2 (q_pool (q_mo y)) k c
  | .lload k => q_ldl k 2 c
  | .lload_n k => q_ldl k.1 1 c
  | .lookupswitch d ps => q_lsw d ps c
  | .lor => q_binl (fun a b => a ||| b) c
  | .lreturn => q_lret (q_mr y) c
  | .lshl => q_lshl c
  | .lstore k => q_stl1 k 2 c
  | .lstore_n k => q_stl1 k.1 1 c
  | .newarray t => q_newa t c
  | .new k => q_new (q_pool (q_mo y)) k c
  | .pop => q_pop c
  | .putfield k => q_putf (q_pool (q_mo y)) (q_ownf y) k c
  | .return_ => q_vret (q_mr y) c
  | .sipush n => q_push (.int (Int16.ofInt n).toInt32) 3 c
  | .tableswitch d lo hi os => q_tsw d lo hi os c
  | _ => none
/-- method y from the point c on, with fuel -/
def q_go (O : q_O) (y : Nat) : Nat → q_C → Option q_Rs
  | 0, _ => none
  | n + 1, c => match q_fetch y c.1 with
    | none => none
    | some i => match q_step O y i.1 c with
      | none => none
      | some (.inl c') => q_go O y n c'
      | some (.inr r) => some r
/-- the locals at a method's entry -/
def q_args : List Value → List Value
  | [] => []
  | v :: vs => if v.category = 2 then v :: .null :: q_args vs else v :: q_args vs
def q_entry (n : Nat) (vs : List Value) : List Value := q_args vs ++ List.replicate (n - (q_args vs).length) .null
/-- method y with the arguments vs over the heap X: n is the fuel of each call, d the depth -/
def q_run (n : Nat) : Nat → q_O
  | 0 => fun _ _ _ => none
  | d + 1 => fun y vs X => if (q_args vs).length ≤ q_ml y then q_go (q_run n d) y n (0, q_entry (q_ml y) vs, [], X) else none
