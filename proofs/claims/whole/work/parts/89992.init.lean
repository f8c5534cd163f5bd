/-! the constructors -/
def zI : Nat → Value := fun _ => vI 0
def zJ : Nat → Value := fun _ => vL 0
def nU : Nat → Value := fun _ => .null
def dfl (ci : Nat) : Nat → Value := fun j => defaultValue (q_ty ci j)
abbrev q_M : Type := Nat → Nat → Value
def hM (a : Nat) (M : q_M) : q_M := up (mk (up (mk (up (mk (up (mk (up (mk (up (mk (M) (a + 1) zI) (a) 1 (.ref (a + 1))) (a + 2) zI) (a) 2 (.ref (a + 2))) (a + 3) zI) (a) 3 (.ref (a + 3))) (a + 4) zI) (a) 4 (.ref (a + 4))) (a + 5) zI) (a) 5 (.ref (a + 5))) (a + 6) zI) (a) 9 (.ref (a + 6))
def rM (a : Nat) (m : Int) (M : q_M) : q_M := up (up (mk (up (mk (up (mk (M) (a + 1) zI) (a) 2 (.ref (a + 1))) (a + 2) zI) (a) 3 (.ref (a + 2))) (a + 3) zI) (a) 4 (.ref (a + 3))) (a) 0 (vI m)
def slM (a : Nat) (M : q_M) : q_M := up (rM (a + 13) 8 (mk (up (rM (a + 9) 10 (mk (up (rM (a + 5) 5 (mk (up (rM (a + 1) 10 (mk (M) (a + 1) (dfl 4))) a 0 (.ref (a + 1))) (a + 5) (dfl 4))) a 1 (.ref (a + 5))) (a + 9) (dfl 4))) a 2 (.ref (a + 9))) (a + 13) (dfl 4))) a 3 (.ref (a + 13))
def rdM (M : q_M) : q_M := up (mk M 57 zI) 56 0 (.ref 57)
def mlM (M : q_M) : q_M := up (mk (up (mk M 60 zI) 59 3 (.ref 60)) 61 zI) 59 6 (.ref 61)
def acM (M : q_M) : q_M := up (mk M 63 zI) 62 4 (.ref 63)
def tpM (a : Nat) (M : q_M) : q_M := up (mk (up M a 0 (vI (-1))) (a + 1) zJ) a 2 (.ref (a + 1))
def blM (M : q_M) : q_M := up (up (mk (up (mk (up (mk M 79 zI) 78 3 (.ref 79)) 80 zI) 78 4 (.ref 80)) 81 zI) 78 6 (.ref 81)) 78 0 (vI 9)
theorem hM_ne {a b : Nat} {M : q_M} (h : b < a ∨ a + 6 < b) : hM a M b = M b := by
  unfold hM
  simp (disch := omega) only [up_ne, mk_ne]
theorem hM_5 {a : Nat} {M : q_M} : hM a M a 5 = .ref (a + 5) := by
  unfold hM
  simp (disch := omega) only [up_at, up_k, up_ne, mk_ne]
theorem rM_ne {a b : Nat} {m : Int} {M : q_M} (h : b < a ∨ a + 3 < b) : rM a m M b = M b := by
  unfold rM
  simp (disch := omega) only [up_ne, mk_ne]
theorem slM_ne {a b : Nat} {M : q_M} (h : b < a ∨ a + 16 < b) : slM a M b = M b := by
  unfold slM
  simp (disch := omega) only [up_ne, mk_ne, rM_ne]
theorem rdM_ne {b : Nat} {M : q_M} (h : b < 56 ∨ 57 < b) : rdM M b = M b := by
  unfold rdM
  simp (disch := omega) only [up_ne, mk_ne]
theorem mlM_ne {b : Nat} {M : q_M} (h : b < 59 ∨ 61 < b) : mlM M b = M b := by
  unfold mlM
  simp (disch := omega) only [up_ne, mk_ne]
theorem acM_ne {b : Nat} {M : q_M} (h : b < 62 ∨ 63 < b) : acM M b = M b := by
  unfold acM
  simp (disch := omega) only [up_ne, mk_ne]
theorem tpM_ne {a b : Nat} {M : q_M} (h : b < a ∨ a + 1 < b) : tpM a M b = M b := by
  unfold tpM
  simp (disch := omega) only [up_ne, mk_ne]
theorem blM_ne {b : Nat} {M : q_M} (h : b < 78 ∨ 81 < b) : blM M b = M b := by
  unfold blM
  simp (disch := omega) only [up_ne, mk_ne]
theorem sp3_1 {d L : Nat} {M : q_M} (hd : 1 ≤ d) : Sp d 3 [.ref 1] (2, L, M) none (8, L, hM 1 M) := by
  refine e3 (by omega) ?_
  simp (disch := first | omega | rfl | decide) only [s3_0, s3_1, s3_4, s3_5, s3_7, s3_9, s3_12, s3_13, s3_15, s3_17, s3_20, s3_21, s3_23, s3_25, s3_28, s3_29, s3_31, s3_33, s3_36, s3_37, s3_38, s3_40, s3_43, s3_44, s3_46, s3_48, s3_51, Int.toNat_natCast, Int.toNat_natCast, Nat.reduceAdd, Nat.reduceMul, Int.reduceToNat, Int.reduceAdd, Int.reduceLT, Int.reduceLE, Int.reduceEq, Int.reduceNeg, Int.reduceMul, Int.reduceSub, Nat.reduceSub, reduceIte, ite_true, ite_false, and_true, true_and, and_self]
  all_goals first | rfl | exact ⟨rfl, rfl⟩
theorem sp3_8 {d L : Nat} {M : q_M} (hd : 1 ≤ d) : Sp d 3 [.ref 8] (9, L, M) none (15, L, hM 8 M) := by
  refine e3 (by omega) ?_
  simp (disch := first | omega | rfl | decide) only [s3_0, s3_1, s3_4, s3_5, s3_7, s3_9, s3_12, s3_13, s3_15, s3_17, s3_20, s3_21, s3_23, s3_25, s3_28, s3_29, s3_31, s3_33, s3_36, s3_37, s3_38, s3_40, s3_43, s3_44, s3_46, s3_48, s3_51, Int.toNat_natCast, Int.toNat_natCast, Nat.reduceAdd, Nat.reduceMul, Int.reduceToNat, Int.reduceAdd, Int.reduceLT, Int.reduceLE, Int.reduceEq, Int.reduceNeg, Int.reduceMul, Int.reduceSub, Nat.reduceSub, reduceIte, ite_true, ite_false, and_true, true_and, and_self]
  all_goals first | rfl | exact ⟨rfl, rfl⟩
theorem sp3_15 {d L : Nat} {M : q_M} (hd : 1 ≤ d) : Sp d 3 [.ref 15] (16, L, M) none (22, L, hM 15 M) := by
  refine e3 (by omega) ?_
  simp (disch := first | omega | rfl | decide) only [s3_0, s3_1, s3_4, s3_5, s3_7, s3_9, s3_12, s3_13, s3_15, s3_17, s3_20, s3_21, s3_23, s3_25, s3_28, s3_29, s3_31, s3_33, s3_36, s3_37, s3_38, s3_40, s3_43, s3_44, s3_46, s3_48, s3_51, Int.toNat_natCast, Int.toNat_natCast, Nat.reduceAdd, Nat.reduceMul, Int.reduceToNat, Int.reduceAdd, Int.reduceLT, Int.reduceLE, Int.reduceEq, Int.reduceNeg, Int.reduceMul, Int.reduceSub, Nat.reduceSub, reduceIte, ite_true, ite_false, and_true, true_and, and_self]
  all_goals first | rfl | exact ⟨rfl, rfl⟩
theorem sp34_23 {d L : Nat} {M : q_M} (hd : 1 ≤ d) : Sp d 34 [.ref 23, vI 10] (24, L, M) none (27, L, rM 23 10 M) := by
  refine e34 (by omega) ?_
  simp (disch := first | omega | rfl | decide) only [s34_0, s34_1, s34_4, s34_5, s34_7, s34_9, s34_12, s34_13, s34_15, s34_17, s34_20, s34_21, s34_23, s34_25, s34_28, s34_29, s34_30, s34_32, s34_35, s34_38, Int.toNat_natCast, Int.toNat_natCast, Nat.reduceAdd, Nat.reduceMul, Int.reduceToNat, Int.reduceAdd, Int.reduceLT, Int.reduceLE, Int.reduceEq, Int.reduceNeg, Int.reduceMul, Int.reduceSub, Nat.reduceSub, reduceIte, ite_true, ite_false, and_true, true_and, and_self, show min (10 : Int) 10 = 10 from rfl, show min (5 : Int) 10 = 5 from rfl, show min (8 : Int) 10 = 8 from rfl]
  all_goals first | rfl | exact ⟨rfl, rfl⟩
theorem sp34_27 {d L : Nat} {M : q_M} (hd : 1 ≤ d) : Sp d 34 [.ref 27, vI 5] (28, L, M) none (31, L, rM 27 5 M) := by
  refine e34 (by omega) ?_
  simp (disch := first | omega | rfl | decide) only [s34_0, s34_1, s34_4, s34_5, s34_7, s34_9, s34_12, s34_13, s34_15, s34_17, s34_20, s34_21, s34_23, s34_25, s34_28, s34_29, s34_30, s34_32, s34_35, s34_38, Int.toNat_natCast, Int.toNat_natCast, Nat.reduceAdd, Nat.reduceMul, Int.reduceToNat, Int.reduceAdd, Int.reduceLT, Int.reduceLE, Int.reduceEq, Int.reduceNeg, Int.reduceMul, Int.reduceSub, Nat.reduceSub, reduceIte, ite_true, ite_false, and_true, true_and, and_self, show min (10 : Int) 10 = 10 from rfl, show min (5 : Int) 10 = 5 from rfl, show min (8 : Int) 10 = 8 from rfl]
  all_goals first | rfl | exact ⟨rfl, rfl⟩
theorem sp34_31 {d L : Nat} {M : q_M} (hd : 1 ≤ d) : Sp d 34 [.ref 31, vI 10] (32, L, M) none (35, L, rM 31 10 M) := by
  refine e34 (by omega) ?_
  simp (disch := first | omega | rfl | decide) only [s34_0, s34_1, s34_4, s34_5, s34_7, s34_9, s34_12, s34_13, s34_15, s34_17, s34_20, s34_21, s34_23, s34_25, s34_28, s34_29, s34_30, s34_32, s34_35, s34_38, Int.toNat_natCast, Int.toNat_natCast, Nat.reduceAdd, Nat.reduceMul, Int.reduceToNat, Int.reduceAdd, Int.reduceLT, Int.reduceLE, Int.reduceEq, Int.reduceNeg, Int.reduceMul, Int.reduceSub, Nat.reduceSub, reduceIte, ite_true, ite_false, and_true, true_and, and_self, show min (10 : Int) 10 = 10 from rfl, show min (5 : Int) 10 = 5 from rfl, show min (8 : Int) 10 = 8 from rfl]
  all_goals first | rfl | exact ⟨rfl, rfl⟩
theorem sp34_35 {d L : Nat} {M : q_M} (hd : 1 ≤ d) : Sp d 34 [.ref 35, vI 8] (36, L, M) none (39, L, rM 35 8 M) := by
  refine e34 (by omega) ?_
  simp (disch := first | omega | rfl | decide) only [s34_0, s34_1, s34_4, s34_5, s34_7, s34_9, s34_12, s34_13, s34_15, s34_17, s34_20, s34_21, s34_23, s34_25, s34_28, s34_29, s34_30, s34_32, s34_35, s34_38, Int.toNat_natCast, Int.toNat_natCast, Nat.reduceAdd, Nat.reduceMul, Int.reduceToNat, Int.reduceAdd, Int.reduceLT, Int.reduceLE, Int.reduceEq, Int.reduceNeg, Int.reduceMul, Int.reduceSub, Nat.reduceSub, reduceIte, ite_true, ite_false, and_true, true_and, and_self, show min (10 : Int) 10 = 10 from rfl, show min (5 : Int) 10 = 5 from rfl, show min (8 : Int) 10 = 8 from rfl]
  all_goals first | rfl | exact ⟨rfl, rfl⟩
theorem sp34_40 {d L : Nat} {M : q_M} (hd : 1 ≤ d) : Sp d 34 [.ref 40, vI 10] (41, L, M) none (44, L, rM 40 10 M) := by
  refine e34 (by omega) ?_
  simp (disch := first | omega | rfl | decide) only [s34_0, s34_1, s34_4, s34_5, s34_7, s34_9, s34_12, s34_13, s34_15, s34_17, s34_20, s34_21, s34_23, s34_25, s34_28, s34_29, s34_30, s34_32, s34_35, s34_38, Int.toNat_natCast, Int.toNat_natCast, Nat.reduceAdd, Nat.reduceMul, Int.reduceToNat, Int.reduceAdd, Int.reduceLT, Int.reduceLE, Int.reduceEq, Int.reduceNeg, Int.reduceMul, Int.reduceSub, Nat.reduceSub, reduceIte, ite_true, ite_false, and_true, true_and, and_self, show min (10 : Int) 10 = 10 from rfl, show min (5 : Int) 10 = 5 from rfl, show min (8 : Int) 10 = 8 from rfl]
  all_goals first | rfl | exact ⟨rfl, rfl⟩
theorem sp34_44 {d L : Nat} {M : q_M} (hd : 1 ≤ d) : Sp d 34 [.ref 44, vI 5] (45, L, M) none (48, L, rM 44 5 M) := by
  refine e34 (by omega) ?_
  simp (disch := first | omega | rfl | decide) only [s34_0, s34_1, s34_4, s34_5, s34_7, s34_9, s34_12, s34_13, s34_15, s34_17, s34_20, s34_21, s34_23, s34_25, s34_28, s34_29, s34_30, s34_32, s34_35, s34_38, Int.toNat_natCast, Int.toNat_natCast, Nat.reduceAdd, Nat.reduceMul, Int.reduceToNat, Int.reduceAdd, Int.reduceLT, Int.reduceLE, Int.reduceEq, Int.reduceNeg, Int.reduceMul, Int.reduceSub, Nat.reduceSub, reduceIte, ite_true, ite_false, and_true, true_and, and_self, show min (10 : Int) 10 = 10 from rfl, show min (5 : Int) 10 = 5 from rfl, show min (8 : Int) 10 = 8 from rfl]
  all_goals first | rfl | exact ⟨rfl, rfl⟩
theorem sp34_48 {d L : Nat} {M : q_M} (hd : 1 ≤ d) : Sp d 34 [.ref 48, vI 10] (49, L, M) none (52, L, rM 48 10 M) := by
  refine e34 (by omega) ?_
  simp (disch := first | omega | rfl | decide) only [s34_0, s34_1, s34_4, s34_5, s34_7, s34_9, s34_12, s34_13, s34_15, s34_17, s34_20, s34_21, s34_23, s34_25, s34_28, s34_29, s34_30, s34_32, s34_35, s34_38, Int.toNat_natCast, Int.toNat_natCast, Nat.reduceAdd, Nat.reduceMul, Int.reduceToNat, Int.reduceAdd, Int.reduceLT, Int.reduceLE, Int.reduceEq, Int.reduceNeg, Int.reduceMul, Int.reduceSub, Nat.reduceSub, reduceIte, ite_true, ite_false, and_true, true_and, and_self, show min (10 : Int) 10 = 10 from rfl, show min (5 : Int) 10 = 5 from rfl, show min (8 : Int) 10 = 8 from rfl]
  all_goals first | rfl | exact ⟨rfl, rfl⟩
theorem sp34_52 {d L : Nat} {M : q_M} (hd : 1 ≤ d) : Sp d 34 [.ref 52, vI 8] (53, L, M) none (56, L, rM 52 8 M) := by
  refine e34 (by omega) ?_
  simp (disch := first | omega | rfl | decide) only [s34_0, s34_1, s34_4, s34_5, s34_7, s34_9, s34_12, s34_13, s34_15, s34_17, s34_20, s34_21, s34_23, s34_25, s34_28, s34_29, s34_30, s34_32, s34_35, s34_38, Int.toNat_natCast, Int.toNat_natCast, Nat.reduceAdd, Nat.reduceMul, Int.reduceToNat, Int.reduceAdd, Int.reduceLT, Int.reduceLE, Int.reduceEq, Int.reduceNeg, Int.reduceMul, Int.reduceSub, Nat.reduceSub, reduceIte, ite_true, ite_false, and_true, true_and, and_self, show min (10 : Int) 10 = 10 from rfl, show min (5 : Int) 10 = 5 from rfl, show min (8 : Int) 10 = 8 from rfl]
  all_goals first | rfl | exact ⟨rfl, rfl⟩
theorem sp38_22 {d L : Nat} {M : q_M} (hd : 2 ≤ d) : Sp d 38 [.ref 22] (23, L, M) none (39, L, slM 22 M) := by
  refine e38 (by omega) ?_
  simp (disch := first | omega | rfl | decide) only [s38_0, s38_1, s38_4, s38_5, s38_8, s38_9, s38_14, s38_17, s38_18, s38_21, s38_22, s38_26, s38_29, s38_30, s38_33, s38_34, s38_39, s38_42, s38_43, s38_46, s38_47, s38_52, s38_55, Int.toNat_natCast, Int.toNat_natCast, Nat.reduceAdd, Nat.reduceMul, Int.reduceToNat, Int.reduceAdd, Int.reduceLT, Int.reduceLE, Int.reduceEq, Int.reduceNeg, Int.reduceMul, Int.reduceSub, Nat.reduceSub, reduceIte, ite_true, ite_false, and_true, true_and, and_self, c38_11 (hS := sp34_23 (d := d - 1) (by omega)), c38_23 (hS := sp34_27 (d := d - 1) (by omega)), c38_36 (hS := sp34_31 (d := d - 1) (by omega)), c38_49 (hS := sp34_35 (d := d - 1) (by omega))]
  all_goals first | rfl | exact ⟨rfl, rfl⟩
theorem sp38_39 {d L : Nat} {M : q_M} (hd : 2 ≤ d) : Sp d 38 [.ref 39] (40, L, M) none (56, L, slM 39 M) := by
  refine e38 (by omega) ?_
  simp (disch := first | omega | rfl | decide) only [s38_0, s38_1, s38_4, s38_5, s38_8, s38_9, s38_14, s38_17, s38_18, s38_21, s38_22, s38_26, s38_29, s38_30, s38_33, s38_34, s38_39, s38_42, s38_43, s38_46, s38_47, s38_52, s38_55, Int.toNat_natCast, Int.toNat_natCast, Nat.reduceAdd, Nat.reduceMul, Int.reduceToNat, Int.reduceAdd, Int.reduceLT, Int.reduceLE, Int.reduceEq, Int.reduceNeg, Int.reduceMul, Int.reduceSub, Nat.reduceSub, reduceIte, ite_true, ite_false, and_true, true_and, and_self, c38_11 (hS := sp34_40 (d := d - 1) (by omega)), c38_23 (hS := sp34_44 (d := d - 1) (by omega)), c38_36 (hS := sp34_48 (d := d - 1) (by omega)), c38_49 (hS := sp34_52 (d := d - 1) (by omega))]
  all_goals first | rfl | exact ⟨rfl, rfl⟩
theorem sp22i {d L : Nat} {M : q_M} (hd : 1 ≤ d) : Sp d 22 [.ref 56] (57, L, M) none (58, L, rdM M) := by
  refine e22 (by omega) ?_
  simp (disch := first | omega | rfl | decide) only [s22_0, s22_1, s22_4, s22_5, s22_7, s22_9, s22_12, Int.toNat_natCast, Int.toNat_natCast, Nat.reduceAdd, Nat.reduceMul, Int.reduceToNat, Int.reduceAdd, Int.reduceLT, Int.reduceLE, Int.reduceEq, Int.reduceNeg, Int.reduceMul, Int.reduceSub, Nat.reduceSub, reduceIte, ite_true, ite_false, and_true, true_and, and_self]
  all_goals first | rfl | exact ⟨rfl, rfl⟩
theorem sp18i {d L : Nat} {M : q_M} (hd : 1 ≤ d) : Sp d 18 [.ref 59] (60, L, M) none (62, L, mlM M) := by
  refine e18 (by omega) ?_
  simp (disch := first | omega | rfl | decide) only [s18_0, s18_1, s18_4, s18_5, s18_6, s18_8, s18_11, s18_12, s18_13, s18_15, s18_18, Int.toNat_natCast, Int.toNat_natCast, Nat.reduceAdd, Nat.reduceMul, Int.reduceToNat, Int.reduceAdd, Int.reduceLT, Int.reduceLE, Int.reduceEq, Int.reduceNeg, Int.reduceMul, Int.reduceSub, Nat.reduceSub, reduceIte, ite_true, ite_false, and_true, true_and, and_self]
  all_goals first | rfl | exact ⟨rfl, rfl⟩
theorem sp0i {d L : Nat} {M : q_M} (hd : 1 ≤ d) : Sp d 0 [.ref 62] (63, L, M) none (64, L, acM M) := by
  refine e0 (by omega) ?_
  simp (disch := first | omega | rfl | decide) only [s0_0, s0_1, s0_4, s0_5, s0_7, s0_9, s0_12, Int.toNat_natCast, Int.toNat_natCast, Nat.reduceAdd, Nat.reduceMul, Int.reduceToNat, Int.reduceAdd, Int.reduceLT, Int.reduceLE, Int.reduceEq, Int.reduceNeg, Int.reduceMul, Int.reduceSub, Nat.reduceSub, reduceIte, ite_true, ite_false, and_true, true_and, and_self]
  all_goals first | rfl | exact ⟨rfl, rfl⟩
theorem sp40_0 {d L : Nat} {M : q_M} (hd : 1 ≤ d) : Sp d 40 [.ref 66] (67, L, M) none (68, L, tpM 66 M) := by
  refine e40 (by omega) ?_
  simp (disch := first | omega | rfl | decide) only [s40_0, s40_1, s40_4, s40_5, s40_6, s40_9, s40_10, s40_12, s40_14, s40_17, Int.toNat_natCast, Int.toNat_natCast, Nat.reduceAdd, Nat.reduceMul, Int.reduceToNat, Int.reduceAdd, Int.reduceLT, Int.reduceLE, Int.reduceEq, Int.reduceNeg, Int.reduceMul, Int.reduceSub, Nat.reduceSub, reduceIte, ite_true, ite_false, and_true, true_and, and_self]
  all_goals first | rfl | exact ⟨rfl, rfl⟩
theorem sp40_1 {d L : Nat} {M : q_M} (hd : 1 ≤ d) : Sp d 40 [.ref 68] (69, L, M) none (70, L, tpM 68 M) := by
  refine e40 (by omega) ?_
  simp (disch := first | omega | rfl | decide) only [s40_0, s40_1, s40_4, s40_5, s40_6, s40_9, s40_10, s40_12, s40_14, s40_17, Int.toNat_natCast, Int.toNat_natCast, Nat.reduceAdd, Nat.reduceMul, Int.reduceToNat, Int.reduceAdd, Int.reduceLT, Int.reduceLE, Int.reduceEq, Int.reduceNeg, Int.reduceMul, Int.reduceSub, Nat.reduceSub, reduceIte, ite_true, ite_false, and_true, true_and, and_self]
  all_goals first | rfl | exact ⟨rfl, rfl⟩
theorem sp40_2 {d L : Nat} {M : q_M} (hd : 1 ≤ d) : Sp d 40 [.ref 70] (71, L, M) none (72, L, tpM 70 M) := by
  refine e40 (by omega) ?_
  simp (disch := first | omega | rfl | decide) only [s40_0, s40_1, s40_4, s40_5, s40_6, s40_9, s40_10, s40_12, s40_14, s40_17, Int.toNat_natCast, Int.toNat_natCast, Nat.reduceAdd, Nat.reduceMul, Int.reduceToNat, Int.reduceAdd, Int.reduceLT, Int.reduceLE, Int.reduceEq, Int.reduceNeg, Int.reduceMul, Int.reduceSub, Nat.reduceSub, reduceIte, ite_true, ite_false, and_true, true_and, and_self]
  all_goals first | rfl | exact ⟨rfl, rfl⟩
theorem sp40_3 {d L : Nat} {M : q_M} (hd : 1 ≤ d) : Sp d 40 [.ref 72] (73, L, M) none (74, L, tpM 72 M) := by
  refine e40 (by omega) ?_
  simp (disch := first | omega | rfl | decide) only [s40_0, s40_1, s40_4, s40_5, s40_6, s40_9, s40_10, s40_12, s40_14, s40_17, Int.toNat_natCast, Int.toNat_natCast, Nat.reduceAdd, Nat.reduceMul, Int.reduceToNat, Int.reduceAdd, Int.reduceLT, Int.reduceLE, Int.reduceEq, Int.reduceNeg, Int.reduceMul, Int.reduceSub, Nat.reduceSub, reduceIte, ite_true, ite_false, and_true, true_and, and_self]
  all_goals first | rfl | exact ⟨rfl, rfl⟩
theorem sp40_4 {d L : Nat} {M : q_M} (hd : 1 ≤ d) : Sp d 40 [.ref 74] (75, L, M) none (76, L, tpM 74 M) := by
  refine e40 (by omega) ?_
  simp (disch := first | omega | rfl | decide) only [s40_0, s40_1, s40_4, s40_5, s40_6, s40_9, s40_10, s40_12, s40_14, s40_17, Int.toNat_natCast, Int.toNat_natCast, Nat.reduceAdd, Nat.reduceMul, Int.reduceToNat, Int.reduceAdd, Int.reduceLT, Int.reduceLE, Int.reduceEq, Int.reduceNeg, Int.reduceMul, Int.reduceSub, Nat.reduceSub, reduceIte, ite_true, ite_false, and_true, true_and, and_self]
  all_goals first | rfl | exact ⟨rfl, rfl⟩
theorem sp40_5 {d L : Nat} {M : q_M} (hd : 1 ≤ d) : Sp d 40 [.ref 76] (77, L, M) none (78, L, tpM 76 M) := by
  refine e40 (by omega) ?_
  simp (disch := first | omega | rfl | decide) only [s40_0, s40_1, s40_4, s40_5, s40_6, s40_9, s40_10, s40_12, s40_14, s40_17, Int.toNat_natCast, Int.toNat_natCast, Nat.reduceAdd, Nat.reduceMul, Int.reduceToNat, Int.reduceAdd, Int.reduceLT, Int.reduceLE, Int.reduceEq, Int.reduceNeg, Int.reduceMul, Int.reduceSub, Nat.reduceSub, reduceIte, ite_true, ite_false, and_true, true_and, and_self]
  all_goals first | rfl | exact ⟨rfl, rfl⟩
theorem sp45i {d L : Nat} {M : q_M} (hd : 1 ≤ d) : Sp d 45 [.ref 78] (79, L, M) none (82, L, blM M) := by
  refine e45 (by omega) ?_
  simp (disch := first | omega | rfl | decide) only [s45_0, s45_1, s45_4, s45_5, s45_7, s45_9, s45_12, s45_13, s45_15, s45_17, s45_20, s45_21, s45_23, s45_25, s45_28, s45_29, s45_31, s45_34, Int.toNat_natCast, Int.toNat_natCast, Nat.reduceAdd, Nat.reduceMul, Int.reduceToNat, Int.reduceAdd, Int.reduceLT, Int.reduceLE, Int.reduceEq, Int.reduceNeg, Int.reduceMul, Int.reduceSub, Nat.reduceSub, reduceIte, ite_true, ite_false, and_true, true_and, and_self]
  all_goals first | rfl | exact ⟨rfl, rfl⟩
theorem sp220i {d N L : Nat} {M : q_M} (hd : 1 ≤ d) (hN : 6 < N) : Sp d 220 [.ref 6, vI 5] (N, L, M) none (N, L, up (up (up (up M 6 0 (vI 5)) 6 1 (vI 5)) 6 2 (vI 5)) 6 3 (vI 5)) := by
  refine e220 (by omega) ?_
  simp (disch := first | omega | rfl | decide) only [s220_0, s220_1, s220_2, s220_3, s220_4, s220_5, s220_6, s220_7, s220_10, s220_11, s220_12, s220_13, s220_14, s220_17, s220_20, Int.toNat_natCast, Int.toNat_natCast, Nat.reduceAdd, Nat.reduceMul, Int.reduceToNat, Int.reduceAdd, Int.reduceLT, Int.reduceLE, Int.reduceEq, Int.reduceNeg, Int.reduceMul, Int.reduceSub, Nat.reduceSub, reduceIte, ite_true, ite_false, and_true, true_and, and_self]
  all_goals first | rfl | exact ⟨rfl, rfl⟩
def cm1 (M : q_M) : q_M := up (hM 1 (mk M 1 (dfl 1))) 0 0 (.ref 1)
def cm2 (M : q_M) : q_M := up (hM 8 (mk (cm1 M) 8 (dfl 1))) 0 1 (.ref 8)
def cm3 (M : q_M) : q_M := up (hM 15 (mk (cm2 M) 15 (dfl 1))) 0 2 (.ref 15)
def cm4 (M : q_M) : q_M := up (slM 22 (mk (cm3 M) 22 (dfl 5))) 0 3 (.ref 22)
def cm5 (M : q_M) : q_M := up (slM 39 (mk (cm4 M) 39 (dfl 5))) 0 4 (.ref 39)
def cm6 (M : q_M) : q_M := up (rdM (mk (cm5 M) 56 (dfl 3))) 0 6 (.ref 56)
def cm7 (M : q_M) : q_M := up (mk (cm6 M) 58 nU) 0 7 (.ref 58)
def cm8 (M : q_M) : q_M := up (mlM (mk (cm7 M) 59 (dfl 2))) 0 9 (.ref 59)
def cm9 (M : q_M) : q_M := up (acM (mk (cm8 M) 62 (dfl 0))) 0 10 (.ref 62)
def cm10 (M : q_M) : q_M := up (mk (cm9 M) 64 zI) 0 11 (.ref 64)
def cm11 (M : q_M) : q_M := up (mk (cm10 M) 65 nU) 0 12 (.ref 65)
def cm12 (M : q_M) : q_M := up (tpM 66 (mk (cm11 M) 66 (dfl 6))) 65 0 (.ref 66)
def cm13 (M : q_M) : q_M := up (tpM 68 (mk (cm12 M) 68 (dfl 6))) 65 1 (.ref 68)
def cm14 (M : q_M) : q_M := up (tpM 70 (mk (cm13 M) 70 (dfl 6))) 65 2 (.ref 70)
def cm15 (M : q_M) : q_M := up (tpM 72 (mk (cm14 M) 72 (dfl 6))) 65 3 (.ref 72)
def cm16 (M : q_M) : q_M := up (tpM 74 (mk (cm15 M) 74 (dfl 6))) 65 4 (.ref 74)
def cm17 (M : q_M) : q_M := up (tpM 76 (mk (cm16 M) 76 (dfl 6))) 65 5 (.ref 76)
def cm18 (M : q_M) : q_M := blM (mk (cm17 M) 78 (dfl 7))
def cm19 (M : q_M) : q_M := up (up (up (cm18 M) 1 8 (.ref 78)) 8 8 (.ref 78)) 15 8 (.ref 78)
def cm20 (M : q_M) : q_M := up (up (up (up (cm19 M) 6 0 (vI 5)) 6 1 (vI 5)) 6 2 (vI 5)) 6 3 (vI 5)
set_option maxRecDepth 100000 in
theorem sp53 {d L : Nat} {M : q_M} (hd : 4 ≤ d) : Sp d 53 [.ref 0] (1, L, M) none (82, L, cm20 M) := by
  refine e53 (by omega) ?_
  simp (disch := first | omega | rfl | decide) only [s53_0, s53_1, s53_4, s53_5, s53_8, s53_12, s53_15, s53_16, s53_19, s53_23, s53_26, s53_27, s53_30, s53_34, s53_37, s53_38, s53_41, s53_45, s53_48, s53_49, s53_52, s53_56, s53_59, s53_60, s53_63, s53_67, s53_70, s53_71, s53_73, s53_76, s53_79, s53_80, s53_83, s53_87, s53_90, s53_91, s53_94, s53_98, s53_101, s53_102, s53_104, s53_106, s53_109, s53_110, s53_112, s53_115, s53_118, s53_119, s53_120, s53_121, s53_122, s53_125, s53_126, s53_129, s53_130, s53_133, s53_134, s53_137, s53_141, s53_142, s53_145, s53_148, s53_151, s53_155, s53_156, s53_157, s53_160, s53_161, s53_164, s53_165, s53_168, s53_169, s53_172, s53_173, s53_176, s53_177, s53_180, s53_181, s53_184, s53_187, s53_191, Int.toNat_natCast, Int.toNat_natCast, Nat.reduceAdd, Nat.reduceMul, Int.reduceToNat, Int.reduceAdd, Int.reduceLT, Int.reduceLE, Int.reduceEq, Int.reduceNeg, Int.reduceMul, Int.reduceSub, Nat.reduceSub, reduceIte, ite_true, ite_false, and_true, true_and, and_self, hM_5, up_at, up_k, up_ne, mk_ne, hM_ne, slM_ne, rdM_ne, mlM_ne, acM_ne, tpM_ne, blM_ne, c53_9 (hS := sp3_1 (d := d - 1) (by omega)), c53_20 (hS := sp3_8 (d := d - 1) (by omega)), c53_31 (hS := sp3_15 (d := d - 1) (by omega)), c53_42 (hS := sp38_22 (d := d - 1) (by omega)), c53_53 (hS := sp38_39 (d := d - 1) (by omega)), c53_64 (hS := sp22i (d := d - 1) (by omega)), c53_84 (hS := sp18i (d := d - 1) (by omega)), c53_95 (hS := sp0i (d := d - 1) (by omega)), c53_138 (hS := sp40_0 (d := d - 1) (by omega)), c53_138 (hS := sp40_1 (d := d - 1) (by omega)), c53_138 (hS := sp40_2 (d := d - 1) (by omega)), c53_138 (hS := sp40_3 (d := d - 1) (by omega)), c53_138 (hS := sp40_4 (d := d - 1) (by omega)), c53_138 (hS := sp40_5 (d := d - 1) (by omega)), c53_152 (hS := sp45i (d := d - 1) (by omega)), c53_188 (hS := sp220i (d := d - 1) (N := 82) (by omega) (by omega))]
  all_goals first | rfl | exact ⟨rfl, rfl⟩
