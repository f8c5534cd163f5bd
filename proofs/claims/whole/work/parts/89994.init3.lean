/-! the memory behind the constructors -/
def MF (M : q_M) : q_M := mo7 (mk (cm20 (mk M 0 (dfl 8))) 82 (dfl 9))
def G00 : q_Gi := fun a k => if (a = 1 ∨ a = 8 ∨ a = 15) ∧ k = 8 then 78 else if (a = 6 ∨ a = 87) ∧ k < 4 then 5 else if a = 96 ∧ k < 20 then ([108, 105, 107, 101, 115, 108, 111, 97, 116, 104, 101, 115, 116, 117, 110, 101, 103, 114, 111, 119] : List Int).getD k 0 else if a = 125 ∧ k < 6 then -1 else if (a = 23 ∨ a = 31 ∨ a = 40 ∨ a = 48) ∧ k = 0 then 10 else if (a = 27 ∨ a = 44) ∧ k = 0 then 5 else if (a = 35 ∨ a = 52) ∧ k = 0 then 8 else if (a = 66 ∨ a = 68 ∨ a = 70 ∨ a = 72 ∨ a = 74 ∨ a = 76) ∧ k = 0 then -1 else if a = 82 ∧ (k = 9 ∨ k = 47) then -1 else if a = 82 ∧ k = 26 then 99999 else 0
theorem mm_o {B : q_Bv} {G : q_Gi} {a k : Nat} (h : mty a = 3) (h2 : mfc a k = 0) : mm B G a k = B a k := by simp only [mm, h, h2, mof]
theorem mfc_out {a k : Nat} (h : (mF.getD a []).length ≤ k) : mfc a k = 0 := by
  unfold mfc
  rw [List.getD_eq_getElem?_getD, List.getElem?_eq_none h]
  rfl
theorem MF_lo {M : q_M} {a : Nat} (h : a < 82 ∨ 129 ≤ a) : MF M a = cm20 (mk M 0 (dfl 8)) a := by
  simp (disch := omega) only [MF, mo7, mo6, mo5, mo4, mo3, mo2, mo1, mo0, up_ne, mk_ne]
theorem MF_up {M : q_M} {a : Nat} (h : 129 ≤ a) : MF M a = M a := by
  rw [MF_lo (Or.inr h)]
  simp (disch := omega) only [cm20, cm19, cm18, cm17, cm16, cm15, cm14, cm13, cm12, cm11, cm10, cm9, cm8, cm7, cm6, cm5, cm4, cm3, cm2, cm1, hM, rM, slM, rdM, mlM, acM, tpM, blM, up_ne, mk_ne]
theorem ir_0 {M : q_M} (k : Nat) : mm (MF M) G00 0 k = MF M 0 k := by
  have hk : k = 0 ∨ k = 1 ∨ k = 2 ∨ k = 3 ∨ k = 4 ∨ k = 5 ∨ k = 6 ∨ k = 7 ∨ k = 8 ∨ k = 9 ∨ k = 10 ∨ k = 11 ∨ k = 12 ∨ 13 ≤ k := by omega
  rcases hk with rfl | rfl | rfl | rfl | rfl | rfl | rfl | rfl | rfl | rfl | rfl | rfl | rfl | hk
  iterate 13 (rw [MF_lo (by omega)]; simp (disch := omega) only [cm20, cm19, cm18, cm17, cm16, cm15, cm14, cm13, cm12, cm11, cm10, cm9, cm8, cm7, cm6, cm5, cm4, cm3, cm2, cm1, hM, rM, slM, rdM, mlM, acM, tpM, blM, up_at, up_k, up_ne, mk_ne, mk_at]; rfl)
  exact mm_o (by rfl) (mfc_out (by rw [show (mF.getD 0 []).length = 13 from rfl]; exact hk))
theorem ir_1 {M : q_M} (k : Nat) : mm (MF M) G00 1 k = MF M 1 k := by
  have hk : k = 0 ∨ k = 1 ∨ k = 2 ∨ k = 3 ∨ k = 4 ∨ k = 5 ∨ k = 6 ∨ k = 7 ∨ k = 8 ∨ k = 9 ∨ 10 ≤ k := by omega
  rcases hk with rfl | rfl | rfl | rfl | rfl | rfl | rfl | rfl | rfl | rfl | hk
  iterate 10 (rw [MF_lo (by omega)]; simp (disch := omega) only [cm20, cm19, cm18, cm17, cm16, cm15, cm14, cm13, cm12, cm11, cm10, cm9, cm8, cm7, cm6, cm5, cm4, cm3, cm2, cm1, hM, rM, slM, rdM, mlM, acM, tpM, blM, up_at, up_k, up_ne, mk_ne, mk_at]; rfl)
  exact mm_o (by rfl) (mfc_out (by rw [show (mF.getD 1 []).length = 10 from rfl]; exact hk))
theorem ir_2 {M : q_M} (k : Nat) : mm (MF M) G00 2 k = MF M 2 k := by
  have e : MF M 2 = zI := by
    rw [MF_lo (by omega)]
    simp (disch := omega) only [cm20, cm19, cm18, cm17, cm16, cm15, cm14, cm13, cm12, cm11, cm10, cm9, cm8, cm7, cm6, cm5, cm4, cm3, cm2, cm1, hM, rM, slM, rdM, mlM, acM, tpM, blM, up_at, up_k, up_ne, mk_ne, mk_at]
  rw [e]
  rfl
theorem ir_3 {M : q_M} (k : Nat) : mm (MF M) G00 3 k = MF M 3 k := by
  have e : MF M 3 = zI := by
    rw [MF_lo (by omega)]
    simp (disch := omega) only [cm20, cm19, cm18, cm17, cm16, cm15, cm14, cm13, cm12, cm11, cm10, cm9, cm8, cm7, cm6, cm5, cm4, cm3, cm2, cm1, hM, rM, slM, rdM, mlM, acM, tpM, blM, up_at, up_k, up_ne, mk_ne, mk_at]
  rw [e]
  rfl
theorem ir_4 {M : q_M} (k : Nat) : mm (MF M) G00 4 k = MF M 4 k := by
  have e : MF M 4 = zI := by
    rw [MF_lo (by omega)]
    simp (disch := omega) only [cm20, cm19, cm18, cm17, cm16, cm15, cm14, cm13, cm12, cm11, cm10, cm9, cm8, cm7, cm6, cm5, cm4, cm3, cm2, cm1, hM, rM, slM, rdM, mlM, acM, tpM, blM, up_at, up_k, up_ne, mk_ne, mk_at]
  rw [e]
  rfl
theorem ir_5 {M : q_M} (k : Nat) : mm (MF M) G00 5 k = MF M 5 k := by
  have e : MF M 5 = zI := by
    rw [MF_lo (by omega)]
    simp (disch := omega) only [cm20, cm19, cm18, cm17, cm16, cm15, cm14, cm13, cm12, cm11, cm10, cm9, cm8, cm7, cm6, cm5, cm4, cm3, cm2, cm1, hM, rM, slM, rdM, mlM, acM, tpM, blM, up_at, up_k, up_ne, mk_ne, mk_at]
  rw [e]
  rfl
theorem ir_6 {M : q_M} (k : Nat) : mm (MF M) G00 6 k = MF M 6 k := by
  have e : ∀ k, 4 ≤ k → MF M 6 k = vI 0 := by
    intro k hk
    rw [MF_lo (by omega)]
    simp (disch := omega) only [cm20, cm19, cm18, cm17, cm16, cm15, cm14, cm13, cm12, cm11, cm10, cm9, cm8, cm7, cm6, cm5, cm4, cm3, cm2, cm1, hM, rM, slM, rdM, mlM, acM, tpM, blM, up_at, up_k, up_ne, mk_ne, mk_at]
    rfl
  have hk : k = 0 ∨ k = 1 ∨ k = 2 ∨ k = 3 ∨ 4 ≤ k := by omega
  rcases hk with rfl | rfl | rfl | rfl | hk
  iterate 4 (rw [MF_lo (by omega)]; simp (disch := omega) only [cm20, cm19, cm18, cm17, cm16, cm15, cm14, cm13, cm12, cm11, cm10, cm9, cm8, cm7, cm6, cm5, cm4, cm3, cm2, cm1, hM, rM, slM, rdM, mlM, acM, tpM, blM, up_at, up_k, up_ne, mk_ne, mk_at]; rfl)
  rw [e k hk, mm_i (by rfl)]
  have e2 : G00 6 k = 0 := by
    unfold G00
    simp (disch := omega) only [if_neg]
  rw [e2]
theorem ir_7 {M : q_M} (k : Nat) : mm (MF M) G00 7 k = MF M 7 k := by
  have e : MF M 7 = zI := by
    rw [MF_lo (by omega)]
    simp (disch := omega) only [cm20, cm19, cm18, cm17, cm16, cm15, cm14, cm13, cm12, cm11, cm10, cm9, cm8, cm7, cm6, cm5, cm4, cm3, cm2, cm1, hM, rM, slM, rdM, mlM, acM, tpM, blM, up_at, up_k, up_ne, mk_ne, mk_at]
  rw [e]
  rfl
theorem ir_8 {M : q_M} (k : Nat) : mm (MF M) G00 8 k = MF M 8 k := by
  have hk : k = 0 ∨ k = 1 ∨ k = 2 ∨ k = 3 ∨ k = 4 ∨ k = 5 ∨ k = 6 ∨ k = 7 ∨ k = 8 ∨ k = 9 ∨ 10 ≤ k := by omega
  rcases hk with rfl | rfl | rfl | rfl | rfl | rfl | rfl | rfl | rfl | rfl | hk
  iterate 10 (rw [MF_lo (by omega)]; simp (disch := omega) only [cm20, cm19, cm18, cm17, cm16, cm15, cm14, cm13, cm12, cm11, cm10, cm9, cm8, cm7, cm6, cm5, cm4, cm3, cm2, cm1, hM, rM, slM, rdM, mlM, acM, tpM, blM, up_at, up_k, up_ne, mk_ne, mk_at]; rfl)
  exact mm_o (by rfl) (mfc_out (by rw [show (mF.getD 8 []).length = 10 from rfl]; exact hk))
theorem ir_9 {M : q_M} (k : Nat) : mm (MF M) G00 9 k = MF M 9 k := by
  have e : MF M 9 = zI := by
    rw [MF_lo (by omega)]
    simp (disch := omega) only [cm20, cm19, cm18, cm17, cm16, cm15, cm14, cm13, cm12, cm11, cm10, cm9, cm8, cm7, cm6, cm5, cm4, cm3, cm2, cm1, hM, rM, slM, rdM, mlM, acM, tpM, blM, up_at, up_k, up_ne, mk_ne, mk_at]
  rw [e]
  rfl
theorem ir_10 {M : q_M} (k : Nat) : mm (MF M) G00 10 k = MF M 10 k := by
  have e : MF M 10 = zI := by
    rw [MF_lo (by omega)]
    simp (disch := omega) only [cm20, cm19, cm18, cm17, cm16, cm15, cm14, cm13, cm12, cm11, cm10, cm9, cm8, cm7, cm6, cm5, cm4, cm3, cm2, cm1, hM, rM, slM, rdM, mlM, acM, tpM, blM, up_at, up_k, up_ne, mk_ne, mk_at]
  rw [e]
  rfl
theorem ir_11 {M : q_M} (k : Nat) : mm (MF M) G00 11 k = MF M 11 k := by
  have e : MF M 11 = zI := by
    rw [MF_lo (by omega)]
    simp (disch := omega) only [cm20, cm19, cm18, cm17, cm16, cm15, cm14, cm13, cm12, cm11, cm10, cm9, cm8, cm7, cm6, cm5, cm4, cm3, cm2, cm1, hM, rM, slM, rdM, mlM, acM, tpM, blM, up_at, up_k, up_ne, mk_ne, mk_at]
  rw [e]
  rfl
theorem ir_12 {M : q_M} (k : Nat) : mm (MF M) G00 12 k = MF M 12 k := by
  have e : MF M 12 = zI := by
    rw [MF_lo (by omega)]
    simp (disch := omega) only [cm20, cm19, cm18, cm17, cm16, cm15, cm14, cm13, cm12, cm11, cm10, cm9, cm8, cm7, cm6, cm5, cm4, cm3, cm2, cm1, hM, rM, slM, rdM, mlM, acM, tpM, blM, up_at, up_k, up_ne, mk_ne, mk_at]
  rw [e]
  rfl
theorem ir_13 {M : q_M} (k : Nat) : mm (MF M) G00 13 k = MF M 13 k := by
  have e : MF M 13 = zI := by
    rw [MF_lo (by omega)]
    simp (disch := omega) only [cm20, cm19, cm18, cm17, cm16, cm15, cm14, cm13, cm12, cm11, cm10, cm9, cm8, cm7, cm6, cm5, cm4, cm3, cm2, cm1, hM, rM, slM, rdM, mlM, acM, tpM, blM, up_at, up_k, up_ne, mk_ne, mk_at]
  rw [e]
  rfl
theorem ir_14 {M : q_M} (k : Nat) : mm (MF M) G00 14 k = MF M 14 k := by
  have e : MF M 14 = zI := by
    rw [MF_lo (by omega)]
    simp (disch := omega) only [cm20, cm19, cm18, cm17, cm16, cm15, cm14, cm13, cm12, cm11, cm10, cm9, cm8, cm7, cm6, cm5, cm4, cm3, cm2, cm1, hM, rM, slM, rdM, mlM, acM, tpM, blM, up_at, up_k, up_ne, mk_ne, mk_at]
  rw [e]
  rfl
theorem ir_15 {M : q_M} (k : Nat) : mm (MF M) G00 15 k = MF M 15 k := by
  have hk : k = 0 ∨ k = 1 ∨ k = 2 ∨ k = 3 ∨ k = 4 ∨ k = 5 ∨ k = 6 ∨ k = 7 ∨ k = 8 ∨ k = 9 ∨ 10 ≤ k := by omega
  rcases hk with rfl | rfl | rfl | rfl | rfl | rfl | rfl | rfl | rfl | rfl | hk
  iterate 10 (rw [MF_lo (by omega)]; simp (disch := omega) only [cm20, cm19, cm18, cm17, cm16, cm15, cm14, cm13, cm12, cm11, cm10, cm9, cm8, cm7, cm6, cm5, cm4, cm3, cm2, cm1, hM, rM, slM, rdM, mlM, acM, tpM, blM, up_at, up_k, up_ne, mk_ne, mk_at]; rfl)
  exact mm_o (by rfl) (mfc_out (by rw [show (mF.getD 15 []).length = 10 from rfl]; exact hk))
theorem ir_16 {M : q_M} (k : Nat) : mm (MF M) G00 16 k = MF M 16 k := by
  have e : MF M 16 = zI := by
    rw [MF_lo (by omega)]
    simp (disch := omega) only [cm20, cm19, cm18, cm17, cm16, cm15, cm14, cm13, cm12, cm11, cm10, cm9, cm8, cm7, cm6, cm5, cm4, cm3, cm2, cm1, hM, rM, slM, rdM, mlM, acM, tpM, blM, up_at, up_k, up_ne, mk_ne, mk_at]
  rw [e]
  rfl
theorem ir_17 {M : q_M} (k : Nat) : mm (MF M) G00 17 k = MF M 17 k := by
  have e : MF M 17 = zI := by
    rw [MF_lo (by omega)]
    simp (disch := omega) only [cm20, cm19, cm18, cm17, cm16, cm15, cm14, cm13, cm12, cm11, cm10, cm9, cm8, cm7, cm6, cm5, cm4, cm3, cm2, cm1, hM, rM, slM, rdM, mlM, acM, tpM, blM, up_at, up_k, up_ne, mk_ne, mk_at]
  rw [e]
  rfl
theorem ir_18 {M : q_M} (k : Nat) : mm (MF M) G00 18 k = MF M 18 k := by
  have e : MF M 18 = zI := by
    rw [MF_lo (by omega)]
    simp (disch := omega) only [cm20, cm19, cm18, cm17, cm16, cm15, cm14, cm13, cm12, cm11, cm10, cm9, cm8, cm7, cm6, cm5, cm4, cm3, cm2, cm1, hM, rM, slM, rdM, mlM, acM, tpM, blM, up_at, up_k, up_ne, mk_ne, mk_at]
  rw [e]
  rfl
theorem ir_19 {M : q_M} (k : Nat) : mm (MF M) G00 19 k = MF M 19 k := by
  have e : MF M 19 = zI := by
    rw [MF_lo (by omega)]
    simp (disch := omega) only [cm20, cm19, cm18, cm17, cm16, cm15, cm14, cm13, cm12, cm11, cm10, cm9, cm8, cm7, cm6, cm5, cm4, cm3, cm2, cm1, hM, rM, slM, rdM, mlM, acM, tpM, blM, up_at, up_k, up_ne, mk_ne, mk_at]
  rw [e]
  rfl
theorem ir_20 {M : q_M} (k : Nat) : mm (MF M) G00 20 k = MF M 20 k := by
  have e : MF M 20 = zI := by
    rw [MF_lo (by omega)]
    simp (disch := omega) only [cm20, cm19, cm18, cm17, cm16, cm15, cm14, cm13, cm12, cm11, cm10, cm9, cm8, cm7, cm6, cm5, cm4, cm3, cm2, cm1, hM, rM, slM, rdM, mlM, acM, tpM, blM, up_at, up_k, up_ne, mk_ne, mk_at]
  rw [e]
  rfl
theorem ir_21 {M : q_M} (k : Nat) : mm (MF M) G00 21 k = MF M 21 k := by
  have e : MF M 21 = zI := by
    rw [MF_lo (by omega)]
    simp (disch := omega) only [cm20, cm19, cm18, cm17, cm16, cm15, cm14, cm13, cm12, cm11, cm10, cm9, cm8, cm7, cm6, cm5, cm4, cm3, cm2, cm1, hM, rM, slM, rdM, mlM, acM, tpM, blM, up_at, up_k, up_ne, mk_ne, mk_at]
  rw [e]
  rfl
theorem ir_22 {M : q_M} (k : Nat) : mm (MF M) G00 22 k = MF M 22 k := by
  have hk : k = 0 ∨ k = 1 ∨ k = 2 ∨ k = 3 ∨ 4 ≤ k := by omega
  rcases hk with rfl | rfl | rfl | rfl | hk
  iterate 4 (rw [MF_lo (by omega)]; simp (disch := omega) only [cm20, cm19, cm18, cm17, cm16, cm15, cm14, cm13, cm12, cm11, cm10, cm9, cm8, cm7, cm6, cm5, cm4, cm3, cm2, cm1, hM, rM, slM, rdM, mlM, acM, tpM, blM, up_at, up_k, up_ne, mk_ne, mk_at]; rfl)
  exact mm_o (by rfl) (mfc_out (by rw [show (mF.getD 22 []).length = 4 from rfl]; exact hk))
theorem ir_23 {M : q_M} (k : Nat) : mm (MF M) G00 23 k = MF M 23 k := by
  have hk : k = 0 ∨ k = 1 ∨ k = 2 ∨ k = 3 ∨ k = 4 ∨ 5 ≤ k := by omega
  rcases hk with rfl | rfl | rfl | rfl | rfl | hk
  iterate 5 (rw [MF_lo (by omega)]; simp (disch := omega) only [cm20, cm19, cm18, cm17, cm16, cm15, cm14, cm13, cm12, cm11, cm10, cm9, cm8, cm7, cm6, cm5, cm4, cm3, cm2, cm1, hM, rM, slM, rdM, mlM, acM, tpM, blM, up_at, up_k, up_ne, mk_ne, mk_at]; rfl)
  exact mm_o (by rfl) (mfc_out (by rw [show (mF.getD 23 []).length = 5 from rfl]; exact hk))
theorem ir_24 {M : q_M} (k : Nat) : mm (MF M) G00 24 k = MF M 24 k := by
  have e : MF M 24 = zI := by
    rw [MF_lo (by omega)]
    simp (disch := omega) only [cm20, cm19, cm18, cm17, cm16, cm15, cm14, cm13, cm12, cm11, cm10, cm9, cm8, cm7, cm6, cm5, cm4, cm3, cm2, cm1, hM, rM, slM, rdM, mlM, acM, tpM, blM, up_at, up_k, up_ne, mk_ne, mk_at]
  rw [e]
  rfl
theorem ir_25 {M : q_M} (k : Nat) : mm (MF M) G00 25 k = MF M 25 k := by
  have e : MF M 25 = zI := by
    rw [MF_lo (by omega)]
    simp (disch := omega) only [cm20, cm19, cm18, cm17, cm16, cm15, cm14, cm13, cm12, cm11, cm10, cm9, cm8, cm7, cm6, cm5, cm4, cm3, cm2, cm1, hM, rM, slM, rdM, mlM, acM, tpM, blM, up_at, up_k, up_ne, mk_ne, mk_at]
  rw [e]
  rfl
theorem ir_26 {M : q_M} (k : Nat) : mm (MF M) G00 26 k = MF M 26 k := by
  have e : MF M 26 = zI := by
    rw [MF_lo (by omega)]
    simp (disch := omega) only [cm20, cm19, cm18, cm17, cm16, cm15, cm14, cm13, cm12, cm11, cm10, cm9, cm8, cm7, cm6, cm5, cm4, cm3, cm2, cm1, hM, rM, slM, rdM, mlM, acM, tpM, blM, up_at, up_k, up_ne, mk_ne, mk_at]
  rw [e]
  rfl
theorem ir_27 {M : q_M} (k : Nat) : mm (MF M) G00 27 k = MF M 27 k := by
  have hk : k = 0 ∨ k = 1 ∨ k = 2 ∨ k = 3 ∨ k = 4 ∨ 5 ≤ k := by omega
  rcases hk with rfl | rfl | rfl | rfl | rfl | hk
  iterate 5 (rw [MF_lo (by omega)]; simp (disch := omega) only [cm20, cm19, cm18, cm17, cm16, cm15, cm14, cm13, cm12, cm11, cm10, cm9, cm8, cm7, cm6, cm5, cm4, cm3, cm2, cm1, hM, rM, slM, rdM, mlM, acM, tpM, blM, up_at, up_k, up_ne, mk_ne, mk_at]; rfl)
  exact mm_o (by rfl) (mfc_out (by rw [show (mF.getD 27 []).length = 5 from rfl]; exact hk))
theorem ir_28 {M : q_M} (k : Nat) : mm (MF M) G00 28 k = MF M 28 k := by
  have e : MF M 28 = zI := by
    rw [MF_lo (by omega)]
    simp (disch := omega) only [cm20, cm19, cm18, cm17, cm16, cm15, cm14, cm13, cm12, cm11, cm10, cm9, cm8, cm7, cm6, cm5, cm4, cm3, cm2, cm1, hM, rM, slM, rdM, mlM, acM, tpM, blM, up_at, up_k, up_ne, mk_ne, mk_at]
  rw [e]
  rfl
theorem ir_29 {M : q_M} (k : Nat) : mm (MF M) G00 29 k = MF M 29 k := by
  have e : MF M 29 = zI := by
    rw [MF_lo (by omega)]
    simp (disch := omega) only [cm20, cm19, cm18, cm17, cm16, cm15, cm14, cm13, cm12, cm11, cm10, cm9, cm8, cm7, cm6, cm5, cm4, cm3, cm2, cm1, hM, rM, slM, rdM, mlM, acM, tpM, blM, up_at, up_k, up_ne, mk_ne, mk_at]
  rw [e]
  rfl
theorem ir_30 {M : q_M} (k : Nat) : mm (MF M) G00 30 k = MF M 30 k := by
  have e : MF M 30 = zI := by
    rw [MF_lo (by omega)]
    simp (disch := omega) only [cm20, cm19, cm18, cm17, cm16, cm15, cm14, cm13, cm12, cm11, cm10, cm9, cm8, cm7, cm6, cm5, cm4, cm3, cm2, cm1, hM, rM, slM, rdM, mlM, acM, tpM, blM, up_at, up_k, up_ne, mk_ne, mk_at]
  rw [e]
  rfl
theorem ir_31 {M : q_M} (k : Nat) : mm (MF M) G00 31 k = MF M 31 k := by
  have hk : k = 0 ∨ k = 1 ∨ k = 2 ∨ k = 3 ∨ k = 4 ∨ 5 ≤ k := by omega
  rcases hk with rfl | rfl | rfl | rfl | rfl | hk
  iterate 5 (rw [MF_lo (by omega)]; simp (disch := omega) only [cm20, cm19, cm18, cm17, cm16, cm15, cm14, cm13, cm12, cm11, cm10, cm9, cm8, cm7, cm6, cm5, cm4, cm3, cm2, cm1, hM, rM, slM, rdM, mlM, acM, tpM, blM, up_at, up_k, up_ne, mk_ne, mk_at]; rfl)
  exact mm_o (by rfl) (mfc_out (by rw [show (mF.getD 31 []).length = 5 from rfl]; exact hk))
theorem ir_32 {M : q_M} (k : Nat) : mm (MF M) G00 32 k = MF M 32 k := by
  have e : MF M 32 = zI := by
    rw [MF_lo (by omega)]
    simp (disch := omega) only [cm20, cm19, cm18, cm17, cm16, cm15, cm14, cm13, cm12, cm11, cm10, cm9, cm8, cm7, cm6, cm5, cm4, cm3, cm2, cm1, hM, rM, slM, rdM, mlM, acM, tpM, blM, up_at, up_k, up_ne, mk_ne, mk_at]
  rw [e]
  rfl
theorem ir_33 {M : q_M} (k : Nat) : mm (MF M) G00 33 k = MF M 33 k := by
  have e : MF M 33 = zI := by
    rw [MF_lo (by omega)]
    simp (disch := omega) only [cm20, cm19, cm18, cm17, cm16, cm15, cm14, cm13, cm12, cm11, cm10, cm9, cm8, cm7, cm6, cm5, cm4, cm3, cm2, cm1, hM, rM, slM, rdM, mlM, acM, tpM, blM, up_at, up_k, up_ne, mk_ne, mk_at]
  rw [e]
  rfl
theorem ir_34 {M : q_M} (k : Nat) : mm (MF M) G00 34 k = MF M 34 k := by
  have e : MF M 34 = zI := by
    rw [MF_lo (by omega)]
    simp (disch := omega) only [cm20, cm19, cm18, cm17, cm16, cm15, cm14, cm13, cm12, cm11, cm10, cm9, cm8, cm7, cm6, cm5, cm4, cm3, cm2, cm1, hM, rM, slM, rdM, mlM, acM, tpM, blM, up_at, up_k, up_ne, mk_ne, mk_at]
  rw [e]
  rfl
theorem ir_35 {M : q_M} (k : Nat) : mm (MF M) G00 35 k = MF M 35 k := by
  have hk : k = 0 ∨ k = 1 ∨ k = 2 ∨ k = 3 ∨ k = 4 ∨ 5 ≤ k := by omega
  rcases hk with rfl | rfl | rfl | rfl | rfl | hk
  iterate 5 (rw [MF_lo (by omega)]; simp (disch := omega) only [cm20, cm19, cm18, cm17, cm16, cm15, cm14, cm13, cm12, cm11, cm10, cm9, cm8, cm7, cm6, cm5, cm4, cm3, cm2, cm1, hM, rM, slM, rdM, mlM, acM, tpM, blM, up_at, up_k, up_ne, mk_ne, mk_at]; rfl)
  exact mm_o (by rfl) (mfc_out (by rw [show (mF.getD 35 []).length = 5 from rfl]; exact hk))
theorem ir_36 {M : q_M} (k : Nat) : mm (MF M) G00 36 k = MF M 36 k := by
  have e : MF M 36 = zI := by
    rw [MF_lo (by omega)]
    simp (disch := omega) only [cm20, cm19, cm18, cm17, cm16, cm15, cm14, cm13, cm12, cm11, cm10, cm9, cm8, cm7, cm6, cm5, cm4, cm3, cm2, cm1, hM, rM, slM, rdM, mlM, acM, tpM, blM, up_at, up_k, up_ne, mk_ne, mk_at]
  rw [e]
  rfl
theorem ir_37 {M : q_M} (k : Nat) : mm (MF M) G00 37 k = MF M 37 k := by
  have e : MF M 37 = zI := by
    rw [MF_lo (by omega)]
    simp (disch := omega) only [cm20, cm19, cm18, cm17, cm16, cm15, cm14, cm13, cm12, cm11, cm10, cm9, cm8, cm7, cm6, cm5, cm4, cm3, cm2, cm1, hM, rM, slM, rdM, mlM, acM, tpM, blM, up_at, up_k, up_ne, mk_ne, mk_at]
  rw [e]
  rfl
theorem ir_38 {M : q_M} (k : Nat) : mm (MF M) G00 38 k = MF M 38 k := by
  have e : MF M 38 = zI := by
    rw [MF_lo (by omega)]
    simp (disch := omega) only [cm20, cm19, cm18, cm17, cm16, cm15, cm14, cm13, cm12, cm11, cm10, cm9, cm8, cm7, cm6, cm5, cm4, cm3, cm2, cm1, hM, rM, slM, rdM, mlM, acM, tpM, blM, up_at, up_k, up_ne, mk_ne, mk_at]
  rw [e]
  rfl
theorem ir_39 {M : q_M} (k : Nat) : mm (MF M) G00 39 k = MF M 39 k := by
  have hk : k = 0 ∨ k = 1 ∨ k = 2 ∨ k = 3 ∨ 4 ≤ k := by omega
  rcases hk with rfl | rfl | rfl | rfl | hk
  iterate 4 (rw [MF_lo (by omega)]; simp (disch := omega) only [cm20, cm19, cm18, cm17, cm16, cm15, cm14, cm13, cm12, cm11, cm10, cm9, cm8, cm7, cm6, cm5, cm4, cm3, cm2, cm1, hM, rM, slM, rdM, mlM, acM, tpM, blM, up_at, up_k, up_ne, mk_ne, mk_at]; rfl)
  exact mm_o (by rfl) (mfc_out (by rw [show (mF.getD 39 []).length = 4 from rfl]; exact hk))
theorem ir_40 {M : q_M} (k : Nat) : mm (MF M) G00 40 k = MF M 40 k := by
  have hk : k = 0 ∨ k = 1 ∨ k = 2 ∨ k = 3 ∨ k = 4 ∨ 5 ≤ k := by omega
  rcases hk with rfl | rfl | rfl | rfl | rfl | hk
  iterate 5 (rw [MF_lo (by omega)]; simp (disch := omega) only [cm20, cm19, cm18, cm17, cm16, cm15, cm14, cm13, cm12, cm11, cm10, cm9, cm8, cm7, cm6, cm5, cm4, cm3, cm2, cm1, hM, rM, slM, rdM, mlM, acM, tpM, blM, up_at, up_k, up_ne, mk_ne, mk_at]; rfl)
  exact mm_o (by rfl) (mfc_out (by rw [show (mF.getD 40 []).length = 5 from rfl]; exact hk))
theorem ir_41 {M : q_M} (k : Nat) : mm (MF M) G00 41 k = MF M 41 k := by
  have e : MF M 41 = zI := by
    rw [MF_lo (by omega)]
    simp (disch := omega) only [cm20, cm19, cm18, cm17, cm16, cm15, cm14, cm13, cm12, cm11, cm10, cm9, cm8, cm7, cm6, cm5, cm4, cm3, cm2, cm1, hM, rM, slM, rdM, mlM, acM, tpM, blM, up_at, up_k, up_ne, mk_ne, mk_at]
  rw [e]
  rfl
theorem ir_42 {M : q_M} (k : Nat) : mm (MF M) G00 42 k = MF M 42 k := by
  have e : MF M 42 = zI := by
    rw [MF_lo (by omega)]
    simp (disch := omega) only [cm20, cm19, cm18, cm17, cm16, cm15, cm14, cm13, cm12, cm11, cm10, cm9, cm8, cm7, cm6, cm5, cm4, cm3, cm2, cm1, hM, rM, slM, rdM, mlM, acM, tpM, blM, up_at, up_k, up_ne, mk_ne, mk_at]
  rw [e]
  rfl
theorem ir_43 {M : q_M} (k : Nat) : mm (MF M) G00 43 k = MF M 43 k := by
  have e : MF M 43 = zI := by
    rw [MF_lo (by omega)]
    simp (disch := omega) only [cm20, cm19, cm18, cm17, cm16, cm15, cm14, cm13, cm12, cm11, cm10, cm9, cm8, cm7, cm6, cm5, cm4, cm3, cm2, cm1, hM, rM, slM, rdM, mlM, acM, tpM, blM, up_at, up_k, up_ne, mk_ne, mk_at]
  rw [e]
  rfl
theorem ir_44 {M : q_M} (k : Nat) : mm (MF M) G00 44 k = MF M 44 k := by
  have hk : k = 0 ∨ k = 1 ∨ k = 2 ∨ k = 3 ∨ k = 4 ∨ 5 ≤ k := by omega
  rcases hk with rfl | rfl | rfl | rfl | rfl | hk
  iterate 5 (rw [MF_lo (by omega)]; simp (disch := omega) only [cm20, cm19, cm18, cm17, cm16, cm15, cm14, cm13, cm12, cm11, cm10, cm9, cm8, cm7, cm6, cm5, cm4, cm3, cm2, cm1, hM, rM, slM, rdM, mlM, acM, tpM, blM, up_at, up_k, up_ne, mk_ne, mk_at]; rfl)
  exact mm_o (by rfl) (mfc_out (by rw [show (mF.getD 44 []).length = 5 from rfl]; exact hk))
theorem ir_45 {M : q_M} (k : Nat) : mm (MF M) G00 45 k = MF M 45 k := by
  have e : MF M 45 = zI := by
    rw [MF_lo (by omega)]
    simp (disch := omega) only [cm20, cm19, cm18, cm17, cm16, cm15, cm14, cm13, cm12, cm11, cm10, cm9, cm8, cm7, cm6, cm5, cm4, cm3, cm2, cm1, hM, rM, slM, rdM, mlM, acM, tpM, blM, up_at, up_k, up_ne, mk_ne, mk_at]
  rw [e]
  rfl
theorem ir_46 {M : q_M} (k : Nat) : mm (MF M) G00 46 k = MF M 46 k := by
  have e : MF M 46 = zI := by
    rw [MF_lo (by omega)]
    simp (disch := omega) only [cm20, cm19, cm18, cm17, cm16, cm15, cm14, cm13, cm12, cm11, cm10, cm9, cm8, cm7, cm6, cm5, cm4, cm3, cm2, cm1, hM, rM, slM, rdM, mlM, acM, tpM, blM, up_at, up_k, up_ne, mk_ne, mk_at]
  rw [e]
  rfl
theorem ir_47 {M : q_M} (k : Nat) : mm (MF M) G00 47 k = MF M 47 k := by
  have e : MF M 47 = zI := by
    rw [MF_lo (by omega)]
    simp (disch := omega) only [cm20, cm19, cm18, cm17, cm16, cm15, cm14, cm13, cm12, cm11, cm10, cm9, cm8, cm7, cm6, cm5, cm4, cm3, cm2, cm1, hM, rM, slM, rdM, mlM, acM, tpM, blM, up_at, up_k, up_ne, mk_ne, mk_at]
  rw [e]
  rfl
theorem ir_48 {M : q_M} (k : Nat) : mm (MF M) G00 48 k = MF M 48 k := by
  have hk : k = 0 ∨ k = 1 ∨ k = 2 ∨ k = 3 ∨ k = 4 ∨ 5 ≤ k := by omega
  rcases hk with rfl | rfl | rfl | rfl | rfl | hk
  iterate 5 (rw [MF_lo (by omega)]; simp (disch := omega) only [cm20, cm19, cm18, cm17, cm16, cm15, cm14, cm13, cm12, cm11, cm10, cm9, cm8, cm7, cm6, cm5, cm4, cm3, cm2, cm1, hM, rM, slM, rdM, mlM, acM, tpM, blM, up_at, up_k, up_ne, mk_ne, mk_at]; rfl)
  exact mm_o (by rfl) (mfc_out (by rw [show (mF.getD 48 []).length = 5 from rfl]; exact hk))
theorem ir_49 {M : q_M} (k : Nat) : mm (MF M) G00 49 k = MF M 49 k := by
  have e : MF M 49 = zI := by
    rw [MF_lo (by omega)]
    simp (disch := omega) only [cm20, cm19, cm18, cm17, cm16, cm15, cm14, cm13, cm12, cm11, cm10, cm9, cm8, cm7, cm6, cm5, cm4, cm3, cm2, cm1, hM, rM, slM, rdM, mlM, acM, tpM, blM, up_at, up_k, up_ne, mk_ne, mk_at]
  rw [e]
  rfl
theorem ir_50 {M : q_M} (k : Nat) : mm (MF M) G00 50 k = MF M 50 k := by
  have e : MF M 50 = zI := by
    rw [MF_lo (by omega)]
    simp (disch := omega) only [cm20, cm19, cm18, cm17, cm16, cm15, cm14, cm13, cm12, cm11, cm10, cm9, cm8, cm7, cm6, cm5, cm4, cm3, cm2, cm1, hM, rM, slM, rdM, mlM, acM, tpM, blM, up_at, up_k, up_ne, mk_ne, mk_at]
  rw [e]
  rfl
theorem ir_51 {M : q_M} (k : Nat) : mm (MF M) G00 51 k = MF M 51 k := by
  have e : MF M 51 = zI := by
    rw [MF_lo (by omega)]
    simp (disch := omega) only [cm20, cm19, cm18, cm17, cm16, cm15, cm14, cm13, cm12, cm11, cm10, cm9, cm8, cm7, cm6, cm5, cm4, cm3, cm2, cm1, hM, rM, slM, rdM, mlM, acM, tpM, blM, up_at, up_k, up_ne, mk_ne, mk_at]
  rw [e]
  rfl
theorem ir_52 {M : q_M} (k : Nat) : mm (MF M) G00 52 k = MF M 52 k := by
  have hk : k = 0 ∨ k = 1 ∨ k = 2 ∨ k = 3 ∨ k = 4 ∨ 5 ≤ k := by omega
  rcases hk with rfl | rfl | rfl | rfl | rfl | hk
  iterate 5 (rw [MF_lo (by omega)]; simp (disch := omega) only [cm20, cm19, cm18, cm17, cm16, cm15, cm14, cm13, cm12, cm11, cm10, cm9, cm8, cm7, cm6, cm5, cm4, cm3, cm2, cm1, hM, rM, slM, rdM, mlM, acM, tpM, blM, up_at, up_k, up_ne, mk_ne, mk_at]; rfl)
  exact mm_o (by rfl) (mfc_out (by rw [show (mF.getD 52 []).length = 5 from rfl]; exact hk))
theorem ir_53 {M : q_M} (k : Nat) : mm (MF M) G00 53 k = MF M 53 k := by
  have e : MF M 53 = zI := by
    rw [MF_lo (by omega)]
    simp (disch := omega) only [cm20, cm19, cm18, cm17, cm16, cm15, cm14, cm13, cm12, cm11, cm10, cm9, cm8, cm7, cm6, cm5, cm4, cm3, cm2, cm1, hM, rM, slM, rdM, mlM, acM, tpM, blM, up_at, up_k, up_ne, mk_ne, mk_at]
  rw [e]
  rfl
theorem ir_54 {M : q_M} (k : Nat) : mm (MF M) G00 54 k = MF M 54 k := by
  have e : MF M 54 = zI := by
    rw [MF_lo (by omega)]
    simp (disch := omega) only [cm20, cm19, cm18, cm17, cm16, cm15, cm14, cm13, cm12, cm11, cm10, cm9, cm8, cm7, cm6, cm5, cm4, cm3, cm2, cm1, hM, rM, slM, rdM, mlM, acM, tpM, blM, up_at, up_k, up_ne, mk_ne, mk_at]
  rw [e]
  rfl
theorem ir_55 {M : q_M} (k : Nat) : mm (MF M) G00 55 k = MF M 55 k := by
  have e : MF M 55 = zI := by
    rw [MF_lo (by omega)]
    simp (disch := omega) only [cm20, cm19, cm18, cm17, cm16, cm15, cm14, cm13, cm12, cm11, cm10, cm9, cm8, cm7, cm6, cm5, cm4, cm3, cm2, cm1, hM, rM, slM, rdM, mlM, acM, tpM, blM, up_at, up_k, up_ne, mk_ne, mk_at]
  rw [e]
  rfl
theorem ir_56 {M : q_M} (k : Nat) : mm (MF M) G00 56 k = MF M 56 k := by
  have hk : k = 0 ∨ k = 1 ∨ k = 2 ∨ k = 3 ∨ 4 ≤ k := by omega
  rcases hk with rfl | rfl | rfl | rfl | hk
  iterate 4 (rw [MF_lo (by omega)]; simp (disch := omega) only [cm20, cm19, cm18, cm17, cm16, cm15, cm14, cm13, cm12, cm11, cm10, cm9, cm8, cm7, cm6, cm5, cm4, cm3, cm2, cm1, hM, rM, slM, rdM, mlM, acM, tpM, blM, up_at, up_k, up_ne, mk_ne, mk_at]; rfl)
  exact mm_o (by rfl) (mfc_out (by rw [show (mF.getD 56 []).length = 4 from rfl]; exact hk))
theorem ir_57 {M : q_M} (k : Nat) : mm (MF M) G00 57 k = MF M 57 k := by
  have e : MF M 57 = zI := by
    rw [MF_lo (by omega)]
    simp (disch := omega) only [cm20, cm19, cm18, cm17, cm16, cm15, cm14, cm13, cm12, cm11, cm10, cm9, cm8, cm7, cm6, cm5, cm4, cm3, cm2, cm1, hM, rM, slM, rdM, mlM, acM, tpM, blM, up_at, up_k, up_ne, mk_ne, mk_at]
  rw [e]
  rfl
theorem ir_58 {M : q_M} (k : Nat) : mm (MF M) G00 58 k = MF M 58 k := by
  have e : MF M 58 = nU := by
    rw [MF_lo (by omega)]
    simp (disch := omega) only [cm20, cm19, cm18, cm17, cm16, cm15, cm14, cm13, cm12, cm11, cm10, cm9, cm8, cm7, cm6, cm5, cm4, cm3, cm2, cm1, hM, rM, slM, rdM, mlM, acM, tpM, blM, up_at, up_k, up_ne, mk_ne, mk_at]
  rw [e]
  rfl
theorem ir_59 {M : q_M} (k : Nat) : mm (MF M) G00 59 k = MF M 59 k := by
  have hk : k = 0 ∨ k = 1 ∨ k = 2 ∨ k = 3 ∨ k = 4 ∨ k = 5 ∨ k = 6 ∨ 7 ≤ k := by omega
  rcases hk with rfl | rfl | rfl | rfl | rfl | rfl | rfl | hk
  iterate 7 (rw [MF_lo (by omega)]; simp (disch := omega) only [cm20, cm19, cm18, cm17, cm16, cm15, cm14, cm13, cm12, cm11, cm10, cm9, cm8, cm7, cm6, cm5, cm4, cm3, cm2, cm1, hM, rM, slM, rdM, mlM, acM, tpM, blM, up_at, up_k, up_ne, mk_ne, mk_at]; rfl)
  exact mm_o (by rfl) (mfc_out (by rw [show (mF.getD 59 []).length = 7 from rfl]; exact hk))
theorem ir_60 {M : q_M} (k : Nat) : mm (MF M) G00 60 k = MF M 60 k := by
  have e : MF M 60 = zI := by
    rw [MF_lo (by omega)]
    simp (disch := omega) only [cm20, cm19, cm18, cm17, cm16, cm15, cm14, cm13, cm12, cm11, cm10, cm9, cm8, cm7, cm6, cm5, cm4, cm3, cm2, cm1, hM, rM, slM, rdM, mlM, acM, tpM, blM, up_at, up_k, up_ne, mk_ne, mk_at]
  rw [e]
  rfl
theorem ir_61 {M : q_M} (k : Nat) : mm (MF M) G00 61 k = MF M 61 k := by
  have e : MF M 61 = zI := by
    rw [MF_lo (by omega)]
    simp (disch := omega) only [cm20, cm19, cm18, cm17, cm16, cm15, cm14, cm13, cm12, cm11, cm10, cm9, cm8, cm7, cm6, cm5, cm4, cm3, cm2, cm1, hM, rM, slM, rdM, mlM, acM, tpM, blM, up_at, up_k, up_ne, mk_ne, mk_at]
  rw [e]
  rfl
theorem ir_62 {M : q_M} (k : Nat) : mm (MF M) G00 62 k = MF M 62 k := by
  have hk : k = 0 ∨ k = 1 ∨ k = 2 ∨ k = 3 ∨ k = 4 ∨ 5 ≤ k := by omega
  rcases hk with rfl | rfl | rfl | rfl | rfl | hk
  iterate 5 (rw [MF_lo (by omega)]; simp (disch := omega) only [cm20, cm19, cm18, cm17, cm16, cm15, cm14, cm13, cm12, cm11, cm10, cm9, cm8, cm7, cm6, cm5, cm4, cm3, cm2, cm1, hM, rM, slM, rdM, mlM, acM, tpM, blM, up_at, up_k, up_ne, mk_ne, mk_at]; rfl)
  exact mm_o (by rfl) (mfc_out (by rw [show (mF.getD 62 []).length = 5 from rfl]; exact hk))
theorem ir_63 {M : q_M} (k : Nat) : mm (MF M) G00 63 k = MF M 63 k := by
  have e : MF M 63 = zI := by
    rw [MF_lo (by omega)]
    simp (disch := omega) only [cm20, cm19, cm18, cm17, cm16, cm15, cm14, cm13, cm12, cm11, cm10, cm9, cm8, cm7, cm6, cm5, cm4, cm3, cm2, cm1, hM, rM, slM, rdM, mlM, acM, tpM, blM, up_at, up_k, up_ne, mk_ne, mk_at]
  rw [e]
  rfl
theorem ir_64 {M : q_M} (k : Nat) : mm (MF M) G00 64 k = MF M 64 k := by
  have e : MF M 64 = zI := by
    rw [MF_lo (by omega)]
    simp (disch := omega) only [cm20, cm19, cm18, cm17, cm16, cm15, cm14, cm13, cm12, cm11, cm10, cm9, cm8, cm7, cm6, cm5, cm4, cm3, cm2, cm1, hM, rM, slM, rdM, mlM, acM, tpM, blM, up_at, up_k, up_ne, mk_ne, mk_at]
  rw [e]
  rfl
theorem ir_65 {M : q_M} (k : Nat) : mm (MF M) G00 65 k = MF M 65 k := by
  have hk : k = 0 ∨ k = 1 ∨ k = 2 ∨ k = 3 ∨ k = 4 ∨ k = 5 ∨ 6 ≤ k := by omega
  rcases hk with rfl | rfl | rfl | rfl | rfl | rfl | hk
  iterate 6 (rw [MF_lo (by omega)]; simp (disch := omega) only [cm20, cm19, cm18, cm17, cm16, cm15, cm14, cm13, cm12, cm11, cm10, cm9, cm8, cm7, cm6, cm5, cm4, cm3, cm2, cm1, hM, rM, slM, rdM, mlM, acM, tpM, blM, up_at, up_k, up_ne, mk_ne, mk_at]; rfl)
  exact mm_o (by rfl) (mfc_out (by rw [show (mF.getD 65 []).length = 6 from rfl]; exact hk))
theorem ir_66 {M : q_M} (k : Nat) : mm (MF M) G00 66 k = MF M 66 k := by
  have hk : k = 0 ∨ k = 1 ∨ k = 2 ∨ 3 ≤ k := by omega
  rcases hk with rfl | rfl | rfl | hk
  iterate 3 (rw [MF_lo (by omega)]; simp (disch := omega) only [cm20, cm19, cm18, cm17, cm16, cm15, cm14, cm13, cm12, cm11, cm10, cm9, cm8, cm7, cm6, cm5, cm4, cm3, cm2, cm1, hM, rM, slM, rdM, mlM, acM, tpM, blM, up_at, up_k, up_ne, mk_ne, mk_at]; rfl)
  exact mm_o (by rfl) (mfc_out (by rw [show (mF.getD 66 []).length = 3 from rfl]; exact hk))
theorem ir_67 {M : q_M} (k : Nat) : mm (MF M) G00 67 k = MF M 67 k := by
  have e : MF M 67 = zJ := by
    rw [MF_lo (by omega)]
    simp (disch := omega) only [cm20, cm19, cm18, cm17, cm16, cm15, cm14, cm13, cm12, cm11, cm10, cm9, cm8, cm7, cm6, cm5, cm4, cm3, cm2, cm1, hM, rM, slM, rdM, mlM, acM, tpM, blM, up_at, up_k, up_ne, mk_ne, mk_at]
  rw [e]
  rfl
theorem ir_68 {M : q_M} (k : Nat) : mm (MF M) G00 68 k = MF M 68 k := by
  have hk : k = 0 ∨ k = 1 ∨ k = 2 ∨ 3 ≤ k := by omega
  rcases hk with rfl | rfl | rfl | hk
  iterate 3 (rw [MF_lo (by omega)]; simp (disch := omega) only [cm20, cm19, cm18, cm17, cm16, cm15, cm14, cm13, cm12, cm11, cm10, cm9, cm8, cm7, cm6, cm5, cm4, cm3, cm2, cm1, hM, rM, slM, rdM, mlM, acM, tpM, blM, up_at, up_k, up_ne, mk_ne, mk_at]; rfl)
  exact mm_o (by rfl) (mfc_out (by rw [show (mF.getD 68 []).length = 3 from rfl]; exact hk))
theorem ir_69 {M : q_M} (k : Nat) : mm (MF M) G00 69 k = MF M 69 k := by
  have e : MF M 69 = zJ := by
    rw [MF_lo (by omega)]
    simp (disch := omega) only [cm20, cm19, cm18, cm17, cm16, cm15, cm14, cm13, cm12, cm11, cm10, cm9, cm8, cm7, cm6, cm5, cm4, cm3, cm2, cm1, hM, rM, slM, rdM, mlM, acM, tpM, blM, up_at, up_k, up_ne, mk_ne, mk_at]
  rw [e]
  rfl
theorem ir_70 {M : q_M} (k : Nat) : mm (MF M) G00 70 k = MF M 70 k := by
  have hk : k = 0 ∨ k = 1 ∨ k = 2 ∨ 3 ≤ k := by omega
  rcases hk with rfl | rfl | rfl | hk
  iterate 3 (rw [MF_lo (by omega)]; simp (disch := omega) only [cm20, cm19, cm18, cm17, cm16, cm15, cm14, cm13, cm12, cm11, cm10, cm9, cm8, cm7, cm6, cm5, cm4, cm3, cm2, cm1, hM, rM, slM, rdM, mlM, acM, tpM, blM, up_at, up_k, up_ne, mk_ne, mk_at]; rfl)
  exact mm_o (by rfl) (mfc_out (by rw [show (mF.getD 70 []).length = 3 from rfl]; exact hk))
theorem ir_71 {M : q_M} (k : Nat) : mm (MF M) G00 71 k = MF M 71 k := by
  have e : MF M 71 = zJ := by
    rw [MF_lo (by omega)]
    simp (disch := omega) only [cm20, cm19, cm18, cm17, cm16, cm15, cm14, cm13, cm12, cm11, cm10, cm9, cm8, cm7, cm6, cm5, cm4, cm3, cm2, cm1, hM, rM, slM, rdM, mlM, acM, tpM, blM, up_at, up_k, up_ne, mk_ne, mk_at]
  rw [e]
  rfl
theorem ir_72 {M : q_M} (k : Nat) : mm (MF M) G00 72 k = MF M 72 k := by
  have hk : k = 0 ∨ k = 1 ∨ k = 2 ∨ 3 ≤ k := by omega
  rcases hk with rfl | rfl | rfl | hk
  iterate 3 (rw [MF_lo (by omega)]; simp (disch := omega) only [cm20, cm19, cm18, cm17, cm16, cm15, cm14, cm13, cm12, cm11, cm10, cm9, cm8, cm7, cm6, cm5, cm4, cm3, cm2, cm1, hM, rM, slM, rdM, mlM, acM, tpM, blM, up_at, up_k, up_ne, mk_ne, mk_at]; rfl)
  exact mm_o (by rfl) (mfc_out (by rw [show (mF.getD 72 []).length = 3 from rfl]; exact hk))
theorem ir_73 {M : q_M} (k : Nat) : mm (MF M) G00 73 k = MF M 73 k := by
  have e : MF M 73 = zJ := by
    rw [MF_lo (by omega)]
    simp (disch := omega) only [cm20, cm19, cm18, cm17, cm16, cm15, cm14, cm13, cm12, cm11, cm10, cm9, cm8, cm7, cm6, cm5, cm4, cm3, cm2, cm1, hM, rM, slM, rdM, mlM, acM, tpM, blM, up_at, up_k, up_ne, mk_ne, mk_at]
  rw [e]
  rfl
theorem ir_74 {M : q_M} (k : Nat) : mm (MF M) G00 74 k = MF M 74 k := by
  have hk : k = 0 ∨ k = 1 ∨ k = 2 ∨ 3 ≤ k := by omega
  rcases hk with rfl | rfl | rfl | hk
  iterate 3 (rw [MF_lo (by omega)]; simp (disch := omega) only [cm20, cm19, cm18, cm17, cm16, cm15, cm14, cm13, cm12, cm11, cm10, cm9, cm8, cm7, cm6, cm5, cm4, cm3, cm2, cm1, hM, rM, slM, rdM, mlM, acM, tpM, blM, up_at, up_k, up_ne, mk_ne, mk_at]; rfl)
  exact mm_o (by rfl) (mfc_out (by rw [show (mF.getD 74 []).length = 3 from rfl]; exact hk))
theorem ir_75 {M : q_M} (k : Nat) : mm (MF M) G00 75 k = MF M 75 k := by
  have e : MF M 75 = zJ := by
    rw [MF_lo (by omega)]
    simp (disch := omega) only [cm20, cm19, cm18, cm17, cm16, cm15, cm14, cm13, cm12, cm11, cm10, cm9, cm8, cm7, cm6, cm5, cm4, cm3, cm2, cm1, hM, rM, slM, rdM, mlM, acM, tpM, blM, up_at, up_k, up_ne, mk_ne, mk_at]
  rw [e]
  rfl
theorem ir_76 {M : q_M} (k : Nat) : mm (MF M) G00 76 k = MF M 76 k := by
  have hk : k = 0 ∨ k = 1 ∨ k = 2 ∨ 3 ≤ k := by omega
  rcases hk with rfl | rfl | rfl | hk
  iterate 3 (rw [MF_lo (by omega)]; simp (disch := omega) only [cm20, cm19, cm18, cm17, cm16, cm15, cm14, cm13, cm12, cm11, cm10, cm9, cm8, cm7, cm6, cm5, cm4, cm3, cm2, cm1, hM, rM, slM, rdM, mlM, acM, tpM, blM, up_at, up_k, up_ne, mk_ne, mk_at]; rfl)
  exact mm_o (by rfl) (mfc_out (by rw [show (mF.getD 76 []).length = 3 from rfl]; exact hk))
theorem ir_77 {M : q_M} (k : Nat) : mm (MF M) G00 77 k = MF M 77 k := by
  have e : MF M 77 = zJ := by
    rw [MF_lo (by omega)]
    simp (disch := omega) only [cm20, cm19, cm18, cm17, cm16, cm15, cm14, cm13, cm12, cm11, cm10, cm9, cm8, cm7, cm6, cm5, cm4, cm3, cm2, cm1, hM, rM, slM, rdM, mlM, acM, tpM, blM, up_at, up_k, up_ne, mk_ne, mk_at]
  rw [e]
  rfl
theorem ir_78 {M : q_M} (k : Nat) : mm (MF M) G00 78 k = MF M 78 k := rfl
theorem ir_79 {M : q_M} (k : Nat) : mm (MF M) G00 79 k = MF M 79 k := rfl
theorem ir_80 {M : q_M} (k : Nat) : mm (MF M) G00 80 k = MF M 80 k := rfl
theorem ir_81 {M : q_M} (k : Nat) : mm (MF M) G00 81 k = MF M 81 k := rfl
theorem ir_82 {M : q_M} (k : Nat) : mm (MF M) G00 82 k = MF M 82 k := by
  have hk : k = 0 ∨ k = 1 ∨ k = 2 ∨ k = 3 ∨ k = 4 ∨ k = 5 ∨ k = 6 ∨ k = 7 ∨ k = 8 ∨ k = 9 ∨ k = 10 ∨ k = 11 ∨ k = 12 ∨ k = 13 ∨ k = 14 ∨ k = 15 ∨ k = 16 ∨ k = 17 ∨ k = 18 ∨ k = 19 ∨ k = 20 ∨ k = 21 ∨ k = 22 ∨ k = 23 ∨ k = 24 ∨ k = 25 ∨ k = 26 ∨ k = 27 ∨ k = 28 ∨ k = 29 ∨ k = 30 ∨ k = 31 ∨ k = 32 ∨ k = 33 ∨ k = 34 ∨ k = 35 ∨ k = 36 ∨ k = 37 ∨ k = 38 ∨ k = 39 ∨ k = 40 ∨ k = 41 ∨ k = 42 ∨ k = 43 ∨ k = 44 ∨ k = 45 ∨ k = 46 ∨ k = 47 ∨ k = 48 ∨ k = 49 ∨ k = 50 ∨ k = 51 ∨ k = 52 ∨ k = 53 ∨ k = 54 ∨ k = 55 ∨ k = 56 ∨ k = 57 ∨ k = 58 ∨ k = 59 ∨ k = 60 ∨ k = 61 ∨ k = 62 ∨ k = 63 ∨ k = 64 ∨ k = 65 ∨ k = 66 ∨ k = 67 ∨ k = 68 ∨ k = 69 ∨ k = 70 ∨ k = 71 ∨ k = 72 ∨ k = 73 ∨ 74 ≤ k := by omega
  rcases hk with rfl | rfl | rfl | rfl | rfl | rfl | rfl | rfl | rfl | rfl | rfl | rfl | rfl | rfl | rfl | rfl | rfl | rfl | rfl | rfl | rfl | rfl | rfl | rfl | rfl | rfl | rfl | rfl | rfl | rfl | rfl | rfl | rfl | rfl | rfl | rfl | rfl | rfl | rfl | rfl | rfl | rfl | rfl | rfl | rfl | rfl | rfl | rfl | rfl | rfl | rfl | rfl | rfl | rfl | rfl | rfl | rfl | rfl | rfl | rfl | rfl | rfl | rfl | rfl | rfl | rfl | rfl | rfl | rfl | rfl | rfl | rfl | rfl | rfl | hk
  iterate 74 (simp (disch := omega) only [MF, mo7, mo6, mo5, mo4, mo3, mo2, mo1, mo0, up_at, up_k, up_ne, mk_ne, mk_at]; rfl)
  exact mm_o (by rfl) (mfc_out (by rw [show (mF.getD 82 []).length = 74 from rfl]; exact hk))
theorem ir_83 {M : q_M} (k : Nat) : mm (MF M) G00 83 k = MF M 83 k := by
  have e : MF M 83 = zI := by
    simp (disch := omega) only [MF, mo7, mo6, mo5, mo4, mo3, mo2, mo1, mo0, up_at, up_k, up_ne, mk_ne, mk_at]
  rw [e]
  rfl
theorem ir_84 {M : q_M} (k : Nat) : mm (MF M) G00 84 k = MF M 84 k := by
  have e : MF M 84 = zI := by
    simp (disch := omega) only [MF, mo7, mo6, mo5, mo4, mo3, mo2, mo1, mo0, up_at, up_k, up_ne, mk_ne, mk_at]
  rw [e]
  rfl
theorem ir_85 {M : q_M} (k : Nat) : mm (MF M) G00 85 k = MF M 85 k := by
  have e : MF M 85 = zI := by
    simp (disch := omega) only [MF, mo7, mo6, mo5, mo4, mo3, mo2, mo1, mo0, up_at, up_k, up_ne, mk_ne, mk_at]
  rw [e]
  rfl
theorem ir_86 {M : q_M} (k : Nat) : mm (MF M) G00 86 k = MF M 86 k := by
  have e : MF M 86 = zI := by
    simp (disch := omega) only [MF, mo7, mo6, mo5, mo4, mo3, mo2, mo1, mo0, up_at, up_k, up_ne, mk_ne, mk_at]
  rw [e]
  rfl
theorem ir_87 {M : q_M} (k : Nat) : mm (MF M) G00 87 k = MF M 87 k := by
  have e : ∀ k, 4 ≤ k → MF M 87 k = vI 0 := by
    intro k hk
    simp (disch := omega) only [MF, mo7, mo6, mo5, mo4, mo3, mo2, mo1, mo0, up_at, up_k, up_ne, mk_ne, mk_at]
    rfl
  have hk : k = 0 ∨ k = 1 ∨ k = 2 ∨ k = 3 ∨ 4 ≤ k := by omega
  rcases hk with rfl | rfl | rfl | rfl | hk
  iterate 4 (simp (disch := omega) only [MF, mo7, mo6, mo5, mo4, mo3, mo2, mo1, mo0, up_at, up_k, up_ne, mk_ne, mk_at]; rfl)
  rw [e k hk, mm_i (by rfl)]
  have e2 : G00 87 k = 0 := by
    unfold G00
    simp (disch := omega) only [if_neg]
  rw [e2]
theorem ir_88 {M : q_M} (k : Nat) : mm (MF M) G00 88 k = MF M 88 k := by
  have e : MF M 88 = zI := by
    simp (disch := omega) only [MF, mo7, mo6, mo5, mo4, mo3, mo2, mo1, mo0, up_at, up_k, up_ne, mk_ne, mk_at]
  rw [e]
  rfl
theorem ir_89 {M : q_M} (k : Nat) : mm (MF M) G00 89 k = MF M 89 k := by
  have e : MF M 89 = zI := by
    simp (disch := omega) only [MF, mo7, mo6, mo5, mo4, mo3, mo2, mo1, mo0, up_at, up_k, up_ne, mk_ne, mk_at]
  rw [e]
  rfl
theorem ir_90 {M : q_M} (k : Nat) : mm (MF M) G00 90 k = MF M 90 k := by
  have e : MF M 90 = zI := by
    simp (disch := omega) only [MF, mo7, mo6, mo5, mo4, mo3, mo2, mo1, mo0, up_at, up_k, up_ne, mk_ne, mk_at]
  rw [e]
  rfl
theorem ir_91 {M : q_M} (k : Nat) : mm (MF M) G00 91 k = MF M 91 k := by
  have e : MF M 91 = zI := by
    simp (disch := omega) only [MF, mo7, mo6, mo5, mo4, mo3, mo2, mo1, mo0, up_at, up_k, up_ne, mk_ne, mk_at]
  rw [e]
  rfl
theorem ir_92 {M : q_M} (k : Nat) : mm (MF M) G00 92 k = MF M 92 k := by
  have e : MF M 92 = zI := by
    simp (disch := omega) only [MF, mo7, mo6, mo5, mo4, mo3, mo2, mo1, mo0, up_at, up_k, up_ne, mk_ne, mk_at]
  rw [e]
  rfl
theorem ir_93 {M : q_M} (k : Nat) : mm (MF M) G00 93 k = MF M 93 k := by
  have e : MF M 93 = zI := by
    simp (disch := omega) only [MF, mo7, mo6, mo5, mo4, mo3, mo2, mo1, mo0, up_at, up_k, up_ne, mk_ne, mk_at]
  rw [e]
  rfl
theorem ir_94 {M : q_M} (k : Nat) : mm (MF M) G00 94 k = MF M 94 k := by
  have e : MF M 94 = zI := by
    simp (disch := omega) only [MF, mo7, mo6, mo5, mo4, mo3, mo2, mo1, mo0, up_at, up_k, up_ne, mk_ne, mk_at]
  rw [e]
  rfl
theorem ir_95 {M : q_M} (k : Nat) : mm (MF M) G00 95 k = MF M 95 k := by
  have e : MF M 95 = zI := by
    simp (disch := omega) only [MF, mo7, mo6, mo5, mo4, mo3, mo2, mo1, mo0, up_at, up_k, up_ne, mk_ne, mk_at]
  rw [e]
  rfl
theorem ir_96 {M : q_M} (k : Nat) : mm (MF M) G00 96 k = MF M 96 k := by
  have e : ∀ k, 20 ≤ k → MF M 96 k = vI 0 := by
    intro k hk
    simp (disch := omega) only [MF, mo7, mo6, mo5, mo4, mo3, mo2, mo1, mo0, up_at, up_k, up_ne, mk_ne, mk_at]
    rfl
  have hk : k = 0 ∨ k = 1 ∨ k = 2 ∨ k = 3 ∨ k = 4 ∨ k = 5 ∨ k = 6 ∨ k = 7 ∨ k = 8 ∨ k = 9 ∨ k = 10 ∨ k = 11 ∨ k = 12 ∨ k = 13 ∨ k = 14 ∨ k = 15 ∨ k = 16 ∨ k = 17 ∨ k = 18 ∨ k = 19 ∨ 20 ≤ k := by omega
  rcases hk with rfl | rfl | rfl | rfl | rfl | rfl | rfl | rfl | rfl | rfl | rfl | rfl | rfl | rfl | rfl | rfl | rfl | rfl | rfl | rfl | hk
  iterate 20 (simp (disch := omega) only [MF, mo7, mo6, mo5, mo4, mo3, mo2, mo1, mo0, up_at, up_k, up_ne, mk_ne, mk_at]; rfl)
  rw [e k hk, mm_i (by rfl)]
  have e2 : G00 96 k = 0 := by
    unfold G00
    simp (disch := omega) only [if_neg]
  rw [e2]
theorem ir_97 {M : q_M} (k : Nat) : mm (MF M) G00 97 k = MF M 97 k := by
  have e : MF M 97 = zI := by
    simp (disch := omega) only [MF, mo7, mo6, mo5, mo4, mo3, mo2, mo1, mo0, up_at, up_k, up_ne, mk_ne, mk_at]
  rw [e]
  rfl
theorem ir_98 {M : q_M} (k : Nat) : mm (MF M) G00 98 k = MF M 98 k := by
  have e : MF M 98 = zI := by
    simp (disch := omega) only [MF, mo7, mo6, mo5, mo4, mo3, mo2, mo1, mo0, up_at, up_k, up_ne, mk_ne, mk_at]
  rw [e]
  rfl
theorem ir_99 {M : q_M} (k : Nat) : mm (MF M) G00 99 k = MF M 99 k := by
  have e : MF M 99 = zI := by
    simp (disch := omega) only [MF, mo7, mo6, mo5, mo4, mo3, mo2, mo1, mo0, up_at, up_k, up_ne, mk_ne, mk_at]
  rw [e]
  rfl
theorem ir_100 {M : q_M} (k : Nat) : mm (MF M) G00 100 k = MF M 100 k := by
  have e : MF M 100 = zI := by
    simp (disch := omega) only [MF, mo7, mo6, mo5, mo4, mo3, mo2, mo1, mo0, up_at, up_k, up_ne, mk_ne, mk_at]
  rw [e]
  rfl
theorem ir_101 {M : q_M} (k : Nat) : mm (MF M) G00 101 k = MF M 101 k := by
  have e : MF M 101 = zI := by
    simp (disch := omega) only [MF, mo7, mo6, mo5, mo4, mo3, mo2, mo1, mo0, up_at, up_k, up_ne, mk_ne, mk_at]
  rw [e]
  rfl
theorem ir_102 {M : q_M} (k : Nat) : mm (MF M) G00 102 k = MF M 102 k := by
  have e : MF M 102 = zI := by
    simp (disch := omega) only [MF, mo7, mo6, mo5, mo4, mo3, mo2, mo1, mo0, up_at, up_k, up_ne, mk_ne, mk_at]
  rw [e]
  rfl
theorem ir_103 {M : q_M} (k : Nat) : mm (MF M) G00 103 k = MF M 103 k := by
  have e : MF M 103 = zI := by
    simp (disch := omega) only [MF, mo7, mo6, mo5, mo4, mo3, mo2, mo1, mo0, up_at, up_k, up_ne, mk_ne, mk_at]
  rw [e]
  rfl
theorem ir_104 {M : q_M} (k : Nat) : mm (MF M) G00 104 k = MF M 104 k := by
  have e : MF M 104 = zI := by
    simp (disch := omega) only [MF, mo7, mo6, mo5, mo4, mo3, mo2, mo1, mo0, up_at, up_k, up_ne, mk_ne, mk_at]
  rw [e]
  rfl
theorem ir_105 {M : q_M} (k : Nat) : mm (MF M) G00 105 k = MF M 105 k := by
  have e : MF M 105 = zI := by
    simp (disch := omega) only [MF, mo7, mo6, mo5, mo4, mo3, mo2, mo1, mo0, up_at, up_k, up_ne, mk_ne, mk_at]
  rw [e]
  rfl
theorem ir_106 {M : q_M} (k : Nat) : mm (MF M) G00 106 k = MF M 106 k := by
  have e : MF M 106 = zI := by
    simp (disch := omega) only [MF, mo7, mo6, mo5, mo4, mo3, mo2, mo1, mo0, up_at, up_k, up_ne, mk_ne, mk_at]
  rw [e]
  rfl
theorem ir_107 {M : q_M} (k : Nat) : mm (MF M) G00 107 k = MF M 107 k := by
  have e : MF M 107 = zI := by
    simp (disch := omega) only [MF, mo7, mo6, mo5, mo4, mo3, mo2, mo1, mo0, up_at, up_k, up_ne, mk_ne, mk_at]
  rw [e]
  rfl
theorem ir_108 {M : q_M} (k : Nat) : mm (MF M) G00 108 k = MF M 108 k := by
  have e : MF M 108 = zI := by
    simp (disch := omega) only [MF, mo7, mo6, mo5, mo4, mo3, mo2, mo1, mo0, up_at, up_k, up_ne, mk_ne, mk_at]
  rw [e]
  rfl
theorem ir_109 {M : q_M} (k : Nat) : mm (MF M) G00 109 k = MF M 109 k := by
  have e : MF M 109 = zI := by
    simp (disch := omega) only [MF, mo7, mo6, mo5, mo4, mo3, mo2, mo1, mo0, up_at, up_k, up_ne, mk_ne, mk_at]
  rw [e]
  rfl
theorem ir_110 {M : q_M} (k : Nat) : mm (MF M) G00 110 k = MF M 110 k := by
  have e : MF M 110 = zI := by
    simp (disch := omega) only [MF, mo7, mo6, mo5, mo4, mo3, mo2, mo1, mo0, up_at, up_k, up_ne, mk_ne, mk_at]
  rw [e]
  rfl
theorem ir_111 {M : q_M} (k : Nat) : mm (MF M) G00 111 k = MF M 111 k := by
  have e : MF M 111 = zI := by
    simp (disch := omega) only [MF, mo7, mo6, mo5, mo4, mo3, mo2, mo1, mo0, up_at, up_k, up_ne, mk_ne, mk_at]
  rw [e]
  rfl
theorem ir_112 {M : q_M} (k : Nat) : mm (MF M) G00 112 k = MF M 112 k := by
  have e : MF M 112 = zI := by
    simp (disch := omega) only [MF, mo7, mo6, mo5, mo4, mo3, mo2, mo1, mo0, up_at, up_k, up_ne, mk_ne, mk_at]
  rw [e]
  rfl
theorem ir_113 {M : q_M} (k : Nat) : mm (MF M) G00 113 k = MF M 113 k := by
  have e : MF M 113 = zI := by
    simp (disch := omega) only [MF, mo7, mo6, mo5, mo4, mo3, mo2, mo1, mo0, up_at, up_k, up_ne, mk_ne, mk_at]
  rw [e]
  rfl
theorem ir_114 {M : q_M} (k : Nat) : mm (MF M) G00 114 k = MF M 114 k := by
  have e : MF M 114 = zI := by
    simp (disch := omega) only [MF, mo7, mo6, mo5, mo4, mo3, mo2, mo1, mo0, up_at, up_k, up_ne, mk_ne, mk_at]
  rw [e]
  rfl
theorem ir_115 {M : q_M} (k : Nat) : mm (MF M) G00 115 k = MF M 115 k := by
  have e : MF M 115 = zI := by
    simp (disch := omega) only [MF, mo7, mo6, mo5, mo4, mo3, mo2, mo1, mo0, up_at, up_k, up_ne, mk_ne, mk_at]
  rw [e]
  rfl
theorem ir_116 {M : q_M} (k : Nat) : mm (MF M) G00 116 k = MF M 116 k := by
  have e : MF M 116 = zI := by
    simp (disch := omega) only [MF, mo7, mo6, mo5, mo4, mo3, mo2, mo1, mo0, up_at, up_k, up_ne, mk_ne, mk_at]
  rw [e]
  rfl
theorem ir_117 {M : q_M} (k : Nat) : mm (MF M) G00 117 k = MF M 117 k := by
  have e : MF M 117 = zI := by
    simp (disch := omega) only [MF, mo7, mo6, mo5, mo4, mo3, mo2, mo1, mo0, up_at, up_k, up_ne, mk_ne, mk_at]
  rw [e]
  rfl
theorem ir_118 {M : q_M} (k : Nat) : mm (MF M) G00 118 k = MF M 118 k := by
  have e : MF M 118 = zI := by
    simp (disch := omega) only [MF, mo7, mo6, mo5, mo4, mo3, mo2, mo1, mo0, up_at, up_k, up_ne, mk_ne, mk_at]
  rw [e]
  rfl
theorem ir_119 {M : q_M} (k : Nat) : mm (MF M) G00 119 k = MF M 119 k := by
  have e : MF M 119 = zI := by
    simp (disch := omega) only [MF, mo7, mo6, mo5, mo4, mo3, mo2, mo1, mo0, up_at, up_k, up_ne, mk_ne, mk_at]
  rw [e]
  rfl
theorem ir_120 {M : q_M} (k : Nat) : mm (MF M) G00 120 k = MF M 120 k := by
  have e : MF M 120 = zI := by
    simp (disch := omega) only [MF, mo7, mo6, mo5, mo4, mo3, mo2, mo1, mo0, up_at, up_k, up_ne, mk_ne, mk_at]
  rw [e]
  rfl
theorem ir_121 {M : q_M} (k : Nat) : mm (MF M) G00 121 k = MF M 121 k := by
  have e : MF M 121 = zI := by
    simp (disch := omega) only [MF, mo7, mo6, mo5, mo4, mo3, mo2, mo1, mo0, up_at, up_k, up_ne, mk_ne, mk_at]
  rw [e]
  rfl
theorem ir_122 {M : q_M} (k : Nat) : mm (MF M) G00 122 k = MF M 122 k := by
  have e : MF M 122 = zI := by
    simp (disch := omega) only [MF, mo7, mo6, mo5, mo4, mo3, mo2, mo1, mo0, up_at, up_k, up_ne, mk_ne, mk_at]
  rw [e]
  rfl
theorem ir_123 {M : q_M} (k : Nat) : mm (MF M) G00 123 k = MF M 123 k := by
  have e : MF M 123 = zI := by
    simp (disch := omega) only [MF, mo7, mo6, mo5, mo4, mo3, mo2, mo1, mo0, up_at, up_k, up_ne, mk_ne, mk_at]
  rw [e]
  rfl
theorem ir_124 {M : q_M} (k : Nat) : mm (MF M) G00 124 k = MF M 124 k := by
  have e : MF M 124 = zI := by
    simp (disch := omega) only [MF, mo7, mo6, mo5, mo4, mo3, mo2, mo1, mo0, up_at, up_k, up_ne, mk_ne, mk_at]
  rw [e]
  rfl
theorem ir_125 {M : q_M} (k : Nat) : mm (MF M) G00 125 k = MF M 125 k := by
  have e : ∀ k, 6 ≤ k → MF M 125 k = vI 0 := by
    intro k hk
    simp (disch := omega) only [MF, mo7, mo6, mo5, mo4, mo3, mo2, mo1, mo0, up_at, up_k, up_ne, mk_ne, mk_at]
    rfl
  have hk : k = 0 ∨ k = 1 ∨ k = 2 ∨ k = 3 ∨ k = 4 ∨ k = 5 ∨ 6 ≤ k := by omega
  rcases hk with rfl | rfl | rfl | rfl | rfl | rfl | hk
  iterate 6 (simp (disch := omega) only [MF, mo7, mo6, mo5, mo4, mo3, mo2, mo1, mo0, up_at, up_k, up_ne, mk_ne, mk_at]; rfl)
  rw [e k hk, mm_i (by rfl)]
  have e2 : G00 125 k = 0 := by
    unfold G00
    simp (disch := omega) only [if_neg]
  rw [e2]
theorem ir_126 {M : q_M} (k : Nat) : mm (MF M) G00 126 k = MF M 126 k := by
  have e : MF M 126 = zI := by
    simp (disch := omega) only [MF, mo7, mo6, mo5, mo4, mo3, mo2, mo1, mo0, up_at, up_k, up_ne, mk_ne, mk_at]
  rw [e]
  rfl
theorem ir_127 {M : q_M} (k : Nat) : mm (MF M) G00 127 k = MF M 127 k := by
  have e : MF M 127 = zJ := by
    simp (disch := omega) only [MF, mo7, mo6, mo5, mo4, mo3, mo2, mo1, mo0, up_at, up_k, up_ne, mk_ne, mk_at]
  rw [e]
  rfl
theorem ir_128 {M : q_M} (k : Nat) : mm (MF M) G00 128 k = MF M 128 k := by
  have e : MF M 128 = zJ := by
    simp (disch := omega) only [MF, mo7, mo6, mo5, mo4, mo3, mo2, mo1, mo0, up_at, up_k, up_ne, mk_ne, mk_at]
  rw [e]
  rfl
theorem mm_init (M : q_M) : mm (MF M) G00 = MF M := by
  funext a k
  by_cases h0 : a = 0
  · rw [h0]; exact ir_0 k
  by_cases h1 : a = 1
  · rw [h1]; exact ir_1 k
  by_cases h2 : a = 2
  · rw [h2]; exact ir_2 k
  by_cases h3 : a = 3
  · rw [h3]; exact ir_3 k
  by_cases h4 : a = 4
  · rw [h4]; exact ir_4 k
  by_cases h5 : a = 5
  · rw [h5]; exact ir_5 k
  by_cases h6 : a = 6
  · rw [h6]; exact ir_6 k
  by_cases h7 : a = 7
  · rw [h7]; exact ir_7 k
  by_cases h8 : a = 8
  · rw [h8]; exact ir_8 k
  by_cases h9 : a = 9
  · rw [h9]; exact ir_9 k
  by_cases h10 : a = 10
  · rw [h10]; exact ir_10 k
  by_cases h11 : a = 11
  · rw [h11]; exact ir_11 k
  by_cases h12 : a = 12
  · rw [h12]; exact ir_12 k
  by_cases h13 : a = 13
  · rw [h13]; exact ir_13 k
  by_cases h14 : a = 14
  · rw [h14]; exact ir_14 k
  by_cases h15 : a = 15
  · rw [h15]; exact ir_15 k
  by_cases h16 : a = 16
  · rw [h16]; exact ir_16 k
  by_cases h17 : a = 17
  · rw [h17]; exact ir_17 k
  by_cases h18 : a = 18
  · rw [h18]; exact ir_18 k
  by_cases h19 : a = 19
  · rw [h19]; exact ir_19 k
  by_cases h20 : a = 20
  · rw [h20]; exact ir_20 k
  by_cases h21 : a = 21
  · rw [h21]; exact ir_21 k
  by_cases h22 : a = 22
  · rw [h22]; exact ir_22 k
  by_cases h23 : a = 23
  · rw [h23]; exact ir_23 k
  by_cases h24 : a = 24
  · rw [h24]; exact ir_24 k
  by_cases h25 : a = 25
  · rw [h25]; exact ir_25 k
  by_cases h26 : a = 26
  · rw [h26]; exact ir_26 k
  by_cases h27 : a = 27
  · rw [h27]; exact ir_27 k
  by_cases h28 : a = 28
  · rw [h28]; exact ir_28 k
  by_cases h29 : a = 29
  · rw [h29]; exact ir_29 k
  by_cases h30 : a = 30
  · rw [h30]; exact ir_30 k
  by_cases h31 : a = 31
  · rw [h31]; exact ir_31 k
  by_cases h32 : a = 32
  · rw [h32]; exact ir_32 k
  by_cases h33 : a = 33
  · rw [h33]; exact ir_33 k
  by_cases h34 : a = 34
  · rw [h34]; exact ir_34 k
  by_cases h35 : a = 35
  · rw [h35]; exact ir_35 k
  by_cases h36 : a = 36
  · rw [h36]; exact ir_36 k
  by_cases h37 : a = 37
  · rw [h37]; exact ir_37 k
  by_cases h38 : a = 38
  · rw [h38]; exact ir_38 k
  by_cases h39 : a = 39
  · rw [h39]; exact ir_39 k
  by_cases h40 : a = 40
  · rw [h40]; exact ir_40 k
  by_cases h41 : a = 41
  · rw [h41]; exact ir_41 k
  by_cases h42 : a = 42
  · rw [h42]; exact ir_42 k
  by_cases h43 : a = 43
  · rw [h43]; exact ir_43 k
  by_cases h44 : a = 44
  · rw [h44]; exact ir_44 k
  by_cases h45 : a = 45
  · rw [h45]; exact ir_45 k
  by_cases h46 : a = 46
  · rw [h46]; exact ir_46 k
  by_cases h47 : a = 47
  · rw [h47]; exact ir_47 k
  by_cases h48 : a = 48
  · rw [h48]; exact ir_48 k
  by_cases h49 : a = 49
  · rw [h49]; exact ir_49 k
  by_cases h50 : a = 50
  · rw [h50]; exact ir_50 k
  by_cases h51 : a = 51
  · rw [h51]; exact ir_51 k
  by_cases h52 : a = 52
  · rw [h52]; exact ir_52 k
  by_cases h53 : a = 53
  · rw [h53]; exact ir_53 k
  by_cases h54 : a = 54
  · rw [h54]; exact ir_54 k
  by_cases h55 : a = 55
  · rw [h55]; exact ir_55 k
  by_cases h56 : a = 56
  · rw [h56]; exact ir_56 k
  by_cases h57 : a = 57
  · rw [h57]; exact ir_57 k
  by_cases h58 : a = 58
  · rw [h58]; exact ir_58 k
  by_cases h59 : a = 59
  · rw [h59]; exact ir_59 k
  by_cases h60 : a = 60
  · rw [h60]; exact ir_60 k
  by_cases h61 : a = 61
  · rw [h61]; exact ir_61 k
  by_cases h62 : a = 62
  · rw [h62]; exact ir_62 k
  by_cases h63 : a = 63
  · rw [h63]; exact ir_63 k
  by_cases h64 : a = 64
  · rw [h64]; exact ir_64 k
  by_cases h65 : a = 65
  · rw [h65]; exact ir_65 k
  by_cases h66 : a = 66
  · rw [h66]; exact ir_66 k
  by_cases h67 : a = 67
  · rw [h67]; exact ir_67 k
  by_cases h68 : a = 68
  · rw [h68]; exact ir_68 k
  by_cases h69 : a = 69
  · rw [h69]; exact ir_69 k
  by_cases h70 : a = 70
  · rw [h70]; exact ir_70 k
  by_cases h71 : a = 71
  · rw [h71]; exact ir_71 k
  by_cases h72 : a = 72
  · rw [h72]; exact ir_72 k
  by_cases h73 : a = 73
  · rw [h73]; exact ir_73 k
  by_cases h74 : a = 74
  · rw [h74]; exact ir_74 k
  by_cases h75 : a = 75
  · rw [h75]; exact ir_75 k
  by_cases h76 : a = 76
  · rw [h76]; exact ir_76 k
  by_cases h77 : a = 77
  · rw [h77]; exact ir_77 k
  by_cases h78 : a = 78
  · rw [h78]; exact ir_78 k
  by_cases h79 : a = 79
  · rw [h79]; exact ir_79 k
  by_cases h80 : a = 80
  · rw [h80]; exact ir_80 k
  by_cases h81 : a = 81
  · rw [h81]; exact ir_81 k
  by_cases h82 : a = 82
  · rw [h82]; exact ir_82 k
  by_cases h83 : a = 83
  · rw [h83]; exact ir_83 k
  by_cases h84 : a = 84
  · rw [h84]; exact ir_84 k
  by_cases h85 : a = 85
  · rw [h85]; exact ir_85 k
  by_cases h86 : a = 86
  · rw [h86]; exact ir_86 k
  by_cases h87 : a = 87
  · rw [h87]; exact ir_87 k
  by_cases h88 : a = 88
  · rw [h88]; exact ir_88 k
  by_cases h89 : a = 89
  · rw [h89]; exact ir_89 k
  by_cases h90 : a = 90
  · rw [h90]; exact ir_90 k
  by_cases h91 : a = 91
  · rw [h91]; exact ir_91 k
  by_cases h92 : a = 92
  · rw [h92]; exact ir_92 k
  by_cases h93 : a = 93
  · rw [h93]; exact ir_93 k
  by_cases h94 : a = 94
  · rw [h94]; exact ir_94 k
  by_cases h95 : a = 95
  · rw [h95]; exact ir_95 k
  by_cases h96 : a = 96
  · rw [h96]; exact ir_96 k
  by_cases h97 : a = 97
  · rw [h97]; exact ir_97 k
  by_cases h98 : a = 98
  · rw [h98]; exact ir_98 k
  by_cases h99 : a = 99
  · rw [h99]; exact ir_99 k
  by_cases h100 : a = 100
  · rw [h100]; exact ir_100 k
  by_cases h101 : a = 101
  · rw [h101]; exact ir_101 k
  by_cases h102 : a = 102
  · rw [h102]; exact ir_102 k
  by_cases h103 : a = 103
  · rw [h103]; exact ir_103 k
  by_cases h104 : a = 104
  · rw [h104]; exact ir_104 k
  by_cases h105 : a = 105
  · rw [h105]; exact ir_105 k
  by_cases h106 : a = 106
  · rw [h106]; exact ir_106 k
  by_cases h107 : a = 107
  · rw [h107]; exact ir_107 k
  by_cases h108 : a = 108
  · rw [h108]; exact ir_108 k
  by_cases h109 : a = 109
  · rw [h109]; exact ir_109 k
  by_cases h110 : a = 110
  · rw [h110]; exact ir_110 k
  by_cases h111 : a = 111
  · rw [h111]; exact ir_111 k
  by_cases h112 : a = 112
  · rw [h112]; exact ir_112 k
  by_cases h113 : a = 113
  · rw [h113]; exact ir_113 k
  by_cases h114 : a = 114
  · rw [h114]; exact ir_114 k
  by_cases h115 : a = 115
  · rw [h115]; exact ir_115 k
  by_cases h116 : a = 116
  · rw [h116]; exact ir_116 k
  by_cases h117 : a = 117
  · rw [h117]; exact ir_117 k
  by_cases h118 : a = 118
  · rw [h118]; exact ir_118 k
  by_cases h119 : a = 119
  · rw [h119]; exact ir_119 k
  by_cases h120 : a = 120
  · rw [h120]; exact ir_120 k
  by_cases h121 : a = 121
  · rw [h121]; exact ir_121 k
  by_cases h122 : a = 122
  · rw [h122]; exact ir_122 k
  by_cases h123 : a = 123
  · rw [h123]; exact ir_123 k
  by_cases h124 : a = 124
  · rw [h124]; exact ir_124 k
  by_cases h125 : a = 125
  · rw [h125]; exact ir_125 k
  by_cases h126 : a = 126
  · rw [h126]; exact ir_126 k
  by_cases h127 : a = 127
  · rw [h127]; exact ir_127 k
  by_cases h128 : a = 128
  · rw [h128]; exact ir_128 k
  exact mm_r (mty_raw (by omega))
