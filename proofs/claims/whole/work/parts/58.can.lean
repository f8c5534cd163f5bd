/-! the class's call can -/
/-- from the row i on (m rows), are those due on the day dd so -/
def dueS (P H : q_Gi) (dd : Nat) : Nat → Nat → Bool
  | 0, _ => true
  | m + 1, i => if P 6 i = (dd : Int) then (if H 3 (P 4 i).toNat = P 5 i then dueS P H dd m (i + 1) else false) else dueS P H dd m (i + 1)
/-- the next m days (this one is dd, with H) -/
def seenS (g : Int) (P : q_Gi) : Nat → Nat → q_Gi → Bool
  | 0, _, _ => true
  | m + 1, dd, H => if dueS P H dd (P 0 1).toNat 0 = true then seenS g P m (dd + 1) (dayS g H) else false
theorem lp101a {d N L n dd : Nat} {b v : Int} {B : q_Bv} {G H P : q_Gi} (hv : hv8 G H) (hoH : Hok H) (hP : pv G P) (ho : Pok P) (hn : P 0 1 = (n : Int)) (hdd : dd ≤ 100) {Q : Option Value → q_H → Prop} (hQt : dueS P H dd n 0 = true → ∀ x, nL x = true → WP d 101 115 [.ref 0, vI b, vI v, vI dd, vI n, x] [] (hp N L B G) Q) (hQf : dueS P H dd n 0 = false → Q (some (vI 0)) (hp N L B G)) : ∀ (m k : Nat) (x : Value), k + m = n → nL x = true → dueS P H dd m k = dueS P H dd n 0 → WP d 101 26 [.ref 0, vI b, vI v, vI dd, vI k, x] [] (hp N L B G) Q := by
  intro m
  have hn10 : n ≤ 5 := by have := ho.2.1; omega
  induction m with
  | zero =>
    intro k x hk hx hR
    have hkn : k = n := by omega
    subst hkn
    have hlt : ¬ ((k : Int) < (k : Int)) := by omega
    have := hQt (by rw [← hR]; rfl) x hx
    simp (disch := omega) only [s101_26, s101_28, m101_29, m101_32, m101_35, s101_38, Int.toNat_natCast, Int.toNat_natCast, Nat.reduceAdd, Nat.reduceMul, Int.reduceToNat, Int.reduceAdd, Int.reduceLT, Int.reduceLE, Int.reduceEq, Int.reduceNeg, Int.reduceMul, Int.reduceSub, Nat.reduceSub, reduceIte, ite_true, ite_false, and_true, true_and, and_self, hP.2.1.2.1, hn, hlt]
    exact this
  | succ m ih =>
    intro k x hk hx hR
    have hlt : ((k : Int) < (n : Int)) := by omega
    have hw4 := hP.2.1.2.2.1 k (by omega)
    have hw5 := hP.2.1.2.2.2.1 k (by omega)
    have hw6 := hP.2.1.2.2.2.2 k (by omega)
    have r4 := ho.2.2.2.2.2.1 k (by omega)
    have r5 := ho.2.2.2.2.2.2.1 k (by omega)
    have r6 := ho.2.2.2.2.2.2.2.1 k (by omega)
    obtain ⟨c, hc⟩ : ∃ c : Nat, P 4 k = (c : Int) := ⟨(P 4 k).toNat, by omega⟩
    have h3 := hoH.2.2.2.1 c (by omega)
    have v3 := hv.2.2.2.2.2.1 c (by omega)
    have f1 : dueS P H dd (m + 1) k = (if P 6 k = (dd : Int) then (if H 3 (P 4 k).toNat = P 5 k then dueS P H dd m (k + 1) else false) else dueS P H dd m (k + 1)) := rfl
    rw [f1, hc, Int.toNat_natCast] at hR
    rw [s101_26]
    by_cases c1 : P 6 k = (dd : Int)
    · rw [if_pos c1] at hR
      by_cases c2 : H 3 c = P 5 k
      · rw [if_pos c2] at hR
        have := ih (k + 1) (vI 1) (by omega) rfl hR
        rw [show ((k + 1 : Nat) : Int) = (k : Int) + 1 from rfl] at this
        simp (disch := first | omega | assumption) only [s101_28, m101_29, m101_32, m101_35, s101_38, s101_41, m101_42, m101_45, m101_48, s101_51, m101_53, s101_54, s101_55, s101_55b, s101_58, s101_59, s101_62, s101_63, s101_65, s101_67, s101_67b, s101_70, m101_71, m101_74, s101_77, m101_78, m101_81, m101_84, s101_87, m101_89, m101_90, s101_91, m101_92, m101_95, m101_98, s101_101, m101_103, s101_104, s101_104b, s101_107, s101_108, s101_108b, s101_109, s101_112, Int.toNat_natCast, Int.toNat_natCast, Nat.reduceAdd, Nat.reduceMul, Int.reduceToNat, Int.reduceAdd, Int.reduceLT, Int.reduceLE, Int.reduceEq, Int.reduceNeg, Int.reduceMul, Int.reduceSub, Nat.reduceSub, reduceIte, ite_true, ite_false, and_true, true_and, and_self, hP.2.1.2.1, hn, hlt, hw4, hw5, hw6, hc, v3, c1, c2]
        exact this
      · rw [if_neg c2] at hR
        have := hQf hR.symm
        simp (disch := first | omega | assumption) only [s101_28, m101_29, m101_32, m101_35, s101_38, s101_41, m101_42, m101_45, m101_48, s101_51, m101_53, s101_54, s101_55, s101_55b, s101_58, s101_59, s101_62, s101_63, s101_65, s101_67, s101_67b, s101_70, m101_71, m101_74, s101_77, m101_78, m101_81, m101_84, s101_87, m101_89, m101_90, s101_91, m101_92, m101_95, m101_98, s101_101, m101_103, s101_104, s101_104b, s101_107, s101_108, s101_108b, s101_109, s101_112, Int.toNat_natCast, Int.toNat_natCast, Nat.reduceAdd, Nat.reduceMul, Int.reduceToNat, Int.reduceAdd, Int.reduceLT, Int.reduceLE, Int.reduceEq, Int.reduceNeg, Int.reduceMul, Int.reduceSub, Nat.reduceSub, reduceIte, ite_true, ite_false, and_true, true_and, and_self, hP.2.1.2.1, hn, hlt, hw4, hw5, hw6, hc, v3, c1, c2]
        exact this
    · rw [if_neg c1] at hR
      have := ih (k + 1) (vI 0) (by omega) rfl hR
      rw [show ((k + 1 : Nat) : Int) = (k : Int) + 1 from rfl] at this
      simp (disch := first | omega | assumption) only [s101_28, m101_29, m101_32, m101_35, s101_38, s101_41, m101_42, m101_45, m101_48, s101_51, m101_53, s101_54, s101_55, s101_55b, s101_58, s101_59, s101_62, s101_63, s101_65, s101_67, s101_67b, s101_70, m101_71, m101_74, s101_77, m101_78, m101_81, m101_84, s101_87, m101_89, m101_90, s101_91, m101_92, m101_95, m101_98, s101_101, m101_103, s101_104, s101_104b, s101_107, s101_108, s101_108b, s101_109, s101_112, Int.toNat_natCast, Int.toNat_natCast, Nat.reduceAdd, Nat.reduceMul, Int.reduceToNat, Int.reduceAdd, Int.reduceLT, Int.reduceLE, Int.reduceEq, Int.reduceNeg, Int.reduceMul, Int.reduceSub, Nat.reduceSub, reduceIte, ite_true, ite_false, and_true, true_and, and_self, hP.2.1.2.1, hn, hlt, hw6, c1]
      exact this
theorem lp101 {d u N L n : Nat} {t g b v : Int} {cl : List (Int × List Int)} {B : q_Bv} {P G0 : q_Gi} {R : Bool} (hd : 6 ≤ d) (hU : upl B N u t g cl) (ho : Pok P) (hn : P 0 1 = (n : Int)) {Q : Option Value → q_H → Prop} (hQ : ∀ G', (∀ a, (a < 8 ∨ 14 < a) → G' a = G0 a) → Q (some (vI (bI (R = true)))) (hp N L B G')) : ∀ (m k : Nat) (G H : q_Gi) (x y : Value), k + m = 31 → (∀ a, (a < 8 ∨ 14 < a) → G a = G0 a) → pv G P → hv8 G H → Hok H → H 0 1 + (m : Int) ≤ 20000 → G 8 8 = (u : Int) → nL x = true → nL y = true → seenS g P m k H = R → WP d 101 17 [.ref 0, vI b, vI v, vI k, x, y] [] (hp N L B G) Q := by
  intro m
  have hg : 0 ≤ g ∧ g ≤ 99 := hU.2.2.2.2.2.2.2.2.2.2.1
  induction m with
  | zero =>
    intro k G H x y hk h0 hP hv hoH hda hu hx hy hR
    have hlt : (30 : Int) < (k : Int) := by omega
    simp only [seenS] at hR
    subst hR
    have := hQ G h0
    simp (disch := omega) only [s101_17, s101_18, s101_20, s101_128, s101_129, s101_129b, Int.toNat_natCast, Int.toNat_natCast, Nat.reduceAdd, Nat.reduceMul, Int.reduceToNat, Int.reduceAdd, Int.reduceLT, Int.reduceLE, Int.reduceEq, Int.reduceNeg, Int.reduceMul, Int.reduceSub, Nat.reduceSub, reduceIte, ite_true, ite_false, and_true, true_and, and_self, hlt]
    exact this
  | succ m ih =>
    intro k G H x y hk h0 hP hv hoH hda hu hx hy hR
    have hlt : ¬ ((30 : Int) < (k : Int)) := by omega
    have f1 : seenS g P (m + 1) k H = (if dueS P H k (P 0 1).toNat 0 = true then seenS g P m (k + 1) (dayS g H) else false) := rfl
    rw [f1, hn, Int.toNat_natCast] at hR
    rw [s101_17]
    simp (disch := first | omega | assumption) only [s101_18, s101_20, s101_23, s101_24, Int.toNat_natCast, Int.toNat_natCast, Nat.reduceAdd, Nat.reduceMul, Int.reduceToNat, Int.reduceAdd, Int.reduceLT, Int.reduceLE, Int.reduceEq, Int.reduceNeg, Int.reduceMul, Int.reduceSub, Nat.reduceSub, reduceIte, ite_true, ite_false, and_true, true_and, and_self, hlt]
    refine lp101a hv hoH hP ho hn (by omega) (fun ht x' hx' => ?_) (fun hf => ?_) n 0 y (by omega) hy rfl
    · rw [if_pos ht] at hR
      obtain ⟨G1, h14, w14, f14⟩ := sp14_8 (d := d) (L := L) (by omega) hv hoH hu hU
      have h01 : ∀ a, (a < 8 ∨ 14 < a) → G1 a = G0 a := fun a ha => by rw [f14.1 a ha, h0 a ha]
      have e1 : dayS g H 0 1 = H 0 1 + 1 := rfl
      have := ih (k + 1) G1 (dayS g H) (vI n) x' (by omega) h01 (pv_f hP (fun a _ _ => f14.1 a (by omega))) w14 (dayS_ok hg hoH (by omega)) (by omega) (by rw [f14.2, hu]) rfl hx' hR
      rw [show ((k + 1 : Nat) : Int) = (k : Int) + 1 from rfl] at this
      simp (disch := omega) only [s101_115, m101_116, s101_122, s101_125, Int.toNat_natCast, Int.toNat_natCast, Nat.reduceAdd, Nat.reduceMul, Int.reduceToNat, Int.reduceAdd, Int.reduceLT, Int.reduceLE, Int.reduceEq, Int.reduceNeg, Int.reduceMul, Int.reduceSub, Nat.reduceSub, reduceIte, ite_true, ite_false, and_true, true_and, and_self, m101_119 h14]
      exact this
    · rw [hf, if_neg (by decide)] at hR
      subst hR
      exact hQ G h0
def vsetS (H : q_Gi) (b : Nat) (v : Int) : q_Gi := setS H 2 b v
theorem vsetS_ok {H : q_Gi} {b : Nat} {v : Int} (ho : Hok H) (hv : 0 ≤ v ∧ v ≤ 9) : Hok (vsetS H b v) := by
  obtain ⟨h0, h1, h2, h3, h4, h5, h6, h7⟩ := ho
  refine ⟨h0, h1, fun k hk => ?_, h3, h4, h5, h6, h7⟩
  have := h2 k hk
  show 0 ≤ setS H 2 b v 2 k ∧ setS H 2 b v 2 k ≤ 9
  unfold setS
  split <;> omega
theorem hv8_vset {G H : q_Gi} {b : Nat} {v : Int} (hv : hv8 G H) : hv8 (ug G 10 b v) (vsetS H b v) := by
  obtain ⟨v0, v6, v7, v1, v2, v3, v4, v5⟩ := hv
  refine ⟨v0, v6, v7, v1, fun j hj => ?_, v3, v4, v5⟩
  unfold vsetS setS ug
  by_cases e : j = b
  · simp [e]
  · simp [e]; exact v2 j hj
theorem sp101 {d u N L b v : Nat} {t g : Int} {cl : List (Int × List Int)} {B : q_Bv} {G H P : q_Gi} (hd : 7 ≤ d) (hb : b < 6) (hv9 : v ≤ 9) (hv : hv1 G H) (ho : Hok H) (hday : H 0 1 ≤ 9999) (hu : G 1 8 = (u : Int)) (hU : upl B N u t g cl) (hP : pv G P) (hPo : Pok P) : ∃ G', Sp d 101 [.ref 0, vI b, vI v] (hp N L B G) (some (vI (bI (seenS g P 31 0 (vsetS H b v) = true)))) (hp N L B G') ∧ ∀ a, (a < 8 ∨ 14 < a) → G' a = G a := by
  obtain ⟨n, hn⟩ : ∃ n : Nat, P 0 1 = (n : Int) := ⟨(P 0 1).toNat, by have := hPo.2.1; omega⟩
  obtain ⟨G1, h100, w100, o100, u100, f100⟩ := sp100 (d := d - 1) (L := L) (n := 0) (by omega) (by omega) hv ho (by omega) hu hU
  have h100 : Sp (d - 1) 100 [.ref 0, vI 0] (hp N L B G) none (hp N L B G1) := h100
  obtain ⟨r, X', hS, G', hr, hX, hq⟩ := E101 (d := d) (X := hp N L B G) (z1 := (b : Int)) (z2 := (v : Int)) (Q := fun r X => ∃ G', r = some (vI (bI (seenS g P 31 0 (vsetS H b v) = true))) ∧ X = hp N L B G' ∧ ∀ a, (a < 8 ∨ 14 < a) → G' a = G a) (by omega) (by
    have lp := lp101 (d := d - 1) (u := u) (N := N) (L := L) (n := n) (t := t) (g := g) (b := (b : Int)) (v := (v : Int)) (cl := cl) (B := B) (P := P) (R := seenS g P 31 0 (vsetS H b v)) (by omega) hU hPo hn (G0 := G1) (Q := fun r X => ∃ G', r = some (vI (bI (seenS g P 31 0 (vsetS H b v) = true))) ∧ X = hp N L B G' ∧ ∀ a, (a < 8 ∨ 14 < a) → G' a = G a) (fun G' hG' => ⟨G', rfl, rfl, fun a ha => by rw [hG' a ha, f100 a ha]⟩) 31 0 (ug G1 10 b v) (vsetS H b v) .null .null (by omega) (fun a ha => ug_ne (by omega)) (pv_f hP (fun a _ _ => by rw [ug_ne (by omega), f100 a (by omega)])) (hv8_vset w100) (vsetS_ok ho (by omega)) (by
      have : vsetS H b v 0 1 = H 0 1 := rfl
      omega) (by rw [ug_ne (by omega)]; exact u100) rfl rfl rfl
    simp (disch := omega) only [s101_0, s101_1, s101_5, m101_6, m101_9, s101_12, s101_13, m101_14, s101_15, s101_16, Int.toNat_natCast, Int.toNat_natCast, Nat.reduceAdd, Nat.reduceMul, Int.reduceToNat, Int.reduceAdd, Int.reduceLT, Int.reduceLE, Int.reduceEq, Int.reduceNeg, Int.reduceMul, Int.reduceSub, Nat.reduceSub, reduceIte, ite_true, ite_false, and_true, true_and, and_self, m101_2 h100]
    exact lp)
  exact ⟨G', by rw [hr, hX] at hS; exact hS, hq⟩
/-- of the next m numbers v (this one is v): how many can be; the least -/
def canS (g : Int) (H P : q_Gi) (b : Nat) : Nat → Nat → Int → Int → Int × Int
  | 0, _, many, least => (many, least)
  | m + 1, v, many, least => if seenS g P 31 0 (vsetS H b v) = true then canS g H P b m (v + 1) (many + 1) (if least = -5 then (v : Int) else least) else canS g H P b m (v + 1) many least
theorem lp76 {d u N L b : Nat} {t g w : Int} {cl : List (Int × List Int)} {B : q_Bv} {H P G0 : q_Gi} {R : Int × Int} (hd : 7 ≤ d) (hb : b < 6) (hU : upl B N u t g cl) (ho : Hok H) (hday : H 0 1 ≤ 9999) (hPo : Pok P) {Q : Option Value → q_H → Prop} (hQ : ∀ G', (∀ a, (a < 8 ∨ 14 < a) → G' a = G0 a) → WP d 76 70 [.ref 0, vI b, vI w, vI R.1, vI R.2, vI 10] [] (hp N L B G') Q) : ∀ (m v : Nat) (G : q_Gi) (many least : Int), v + m = 10 → (∀ a, (a < 8 ∨ 14 < a) → G a = G0 a) → hv1 G H → G 1 8 = (u : Int) → pv G P → (-5 ≤ least ∧ least ≤ 100) → canS g H P b m v many least = R → WP d 76 28 [.ref 0, vI b, vI w, vI many, vI least, vI v] [] (hp N L B G) Q := by
  intro m
  induction m with
  | zero =>
    intro v G many least hk h0 hv hu hP hl hR
    have hk4 : v = 10 := by omega
    subst hk4
    simp only [canS] at hR
    have := hQ G h0
    rw [← hR] at this
    simp (disch := omega) only [s76_28, s76_30, s76_32, Int.toNat_natCast, Int.toNat_natCast, Nat.reduceAdd, Nat.reduceMul, Int.reduceToNat, Int.reduceAdd, Int.reduceLT, Int.reduceLE, Int.reduceEq, Int.reduceNeg, Int.reduceMul, Int.reduceSub, Nat.reduceSub, reduceIte, ite_true, ite_false, and_true, true_and, and_self, show ((10 : Nat) : Int) = 10 from rfl]
    exact this
  | succ m ih =>
    intro v G many least hk h0 hv hu hP hl hR
    have hlt : ¬ ((9 : Int) < (v : Int)) := by omega
    obtain ⟨G1, h101, f101⟩ := sp101 (d := d) (L := L) (b := b) (v := v) hd hb (by omega) hv ho hday hu hU hP hPo
    have hv' : hv1 G1 H := hv1_f hv (fun a _ _ => f101 a (by omega))
    have hP' : pv G1 P := pv_f hP (fun a _ _ => f101 a (by omega))
    have hu' : G1 1 8 = (u : Int) := by rw [f101 1 (by omega)]; exact hu
    have h01 : ∀ a, (a < 8 ∨ 14 < a) → G1 a = G0 a := fun a ha => by rw [f101 a ha, h0 a ha]
    have f1 : canS g H P b (m + 1) v many least = (if seenS g P 31 0 (vsetS H b v) = true then canS g H P b m (v + 1) (many + 1) (if least = -5 then (v : Int) else least) else canS g H P b m (v + 1) many least) := rfl
    rw [f1] at hR
    rw [s76_28]
    simp (disch := omega) only [s76_30, s76_32, s76_35, s76_36, s76_37, s76_42, s76_42b, Int.toNat_natCast, Int.toNat_natCast, Nat.reduceAdd, Nat.reduceMul, Int.reduceToNat, Int.reduceAdd, Int.reduceLT, Int.reduceLE, Int.reduceEq, Int.reduceNeg, Int.reduceMul, Int.reduceSub, Nat.reduceSub, reduceIte, ite_true, ite_false, and_true, true_and, and_self, hlt, m76_39 h101]
    by_cases c : seenS g P 31 0 (vsetS H b v) = true
    · rw [if_pos c] at hR ⊢
      by_cases c2 : least = -5
      · rw [if_pos c2] at hR
        have := ih (v + 1) G1 (many + 1) v (by omega) h01 hv' hu' hP' (by omega) hR
        rw [show ((v + 1 : Nat) : Int) = (v : Int) + 1 from rfl] at this
        simp (disch := omega) only [s76_45, s76_48, s76_50, s76_52, s76_52b, s76_55, s76_57, s76_60, s76_62, s76_64, s76_67, Int.toNat_natCast, Int.toNat_natCast, Nat.reduceAdd, Nat.reduceMul, Int.reduceToNat, Int.reduceAdd, Int.reduceLT, Int.reduceLE, Int.reduceEq, Int.reduceNeg, Int.reduceMul, Int.reduceSub, Nat.reduceSub, reduceIte, ite_true, ite_false, and_true, true_and, and_self, c2]
        exact this
      · rw [if_neg c2] at hR
        have := ih (v + 1) G1 (many + 1) least (by omega) h01 hv' hu' hP' hl hR
        rw [show ((v + 1 : Nat) : Int) = (v : Int) + 1 from rfl] at this
        simp (disch := omega) only [s76_45, s76_48, s76_50, s76_52, s76_52b, s76_55, s76_57, s76_60, s76_62, s76_64, s76_67, Int.toNat_natCast, Int.toNat_natCast, Nat.reduceAdd, Nat.reduceMul, Int.reduceToNat, Int.reduceAdd, Int.reduceLT, Int.reduceLE, Int.reduceEq, Int.reduceNeg, Int.reduceMul, Int.reduceSub, Nat.reduceSub, reduceIte, ite_true, ite_false, and_true, true_and, and_self, c2]
        exact this
    · rw [if_neg c] at hR ⊢
      have := ih (v + 1) G1 many least (by omega) h01 hv' hu' hP' hl hR
      rw [show ((v + 1 : Nat) : Int) = (v : Int) + 1 from rfl] at this
      simp (disch := omega) only [s76_64, s76_67, Int.toNat_natCast, Int.toNat_natCast, Nat.reduceAdd, Nat.reduceMul, Int.reduceToNat, Int.reduceAdd, Int.reduceLT, Int.reduceLE, Int.reduceEq, Int.reduceNeg, Int.reduceMul, Int.reduceSub, Nat.reduceSub, reduceIte, ite_true, ite_false, and_true, true_and, and_self]
      exact this
def r76 (g : Int) (H P : q_Gi) (b w : Int) : Int := if (0 ≤ b ∧ b < H 0 0) ∧ (w = 0 ∨ w = 1) then (if w = 0 then (canS g H P b.toNat 10 0 0 (-5)).1 else (canS g H P b.toNat 10 0 0 (-5)).2) else -1
theorem sp76 {d u N L : Nat} {t g b w : Int} {cl : List (Int × List Int)} {B : q_Bv} {G H P : q_Gi} (hd : 9 ≤ d) (hv : hv1 G H) (ho : Hok H) (hday : H 0 1 ≤ 9999) (hu : G 1 8 = (u : Int)) (hU : upl B N u t g cl) (hP : pv G P) (hPo : Pok P) (hb : -2147483648 ≤ b ∧ b ≤ 2147483647) (hw : -2147483648 ≤ w ∧ w ≤ 2147483647) : ∃ G', Sp d 76 [.ref 0, vI b, vI w] (hp N L B G) (some (vI (r76 g H P b w))) (hp N L B G') ∧ qf G G' := by
  have hv0 := hv.1
  have hc := ho.1
  have h94 := sp94 (d := d - 1) (N := N) (L := L) (B := B) (G := G) (by omega) hb (by rw [hv0]; exact ho.1)
  rw [hv0] at h94
  by_cases c1 : 0 ≤ b ∧ b < H 0 0
  · obtain ⟨k, rfl⟩ : ∃ k : Nat, b = (k : Int) := ⟨b.toNat, by omega⟩
    by_cases c2 : w = 0 ∨ w = 1
    · obtain ⟨r, X', hS, G', hr, hX, hq⟩ := E76 (d := d) (X := hp N L B G) (z1 := (k : Int)) (z2 := w) (Q := fun r X => ∃ G', r = some (vI (r76 g H P k w)) ∧ X = hp N L B G' ∧ qf G G') (by omega) (by
        have lp := lp76 (d := d - 1) (u := u) (N := N) (L := L) (b := k) (t := t) (g := g) (w := w) (cl := cl) (B := B) (H := H) (P := P) (G0 := G) (R := canS g H P k 10 0 0 (-5)) (by omega) (by omega) hU ho hday hPo (Q := fun r X => ∃ G', r = some (vI (r76 g H P k w)) ∧ X = hp N L B G' ∧ qf G G') (fun G' hG' => by
          have hq : qf G G' := fun a ha => hG' a (by omega)
          rcases c2 with rfl | rfl
          · simp (disch := omega) only [s76_70, s76_71, s76_71b, s76_74, s76_75, s76_78, s76_80, Int.toNat_natCast, Int.toNat_natCast, Nat.reduceAdd, Nat.reduceMul, Int.reduceToNat, Int.reduceAdd, Int.reduceLT, Int.reduceLE, Int.reduceEq, Int.reduceNeg, Int.reduceMul, Int.reduceSub, Nat.reduceSub, reduceIte, ite_true, ite_false, and_true, true_and, and_self]
            exact ⟨G', by simp only [r76, c1, Int.toNat_natCast, Int.toNat_natCast, Int.toNat_natCast, Nat.reduceAdd, Nat.reduceMul, Int.reduceToNat, Int.reduceAdd, Int.reduceLT, Int.reduceLE, Int.reduceEq, Int.reduceNeg, Int.reduceMul, Int.reduceSub, Nat.reduceSub, reduceIte, ite_true, ite_false, and_true, true_and, and_self, true_or], rfl, hq⟩
          · simp (disch := omega) only [s76_70, s76_71, s76_71b, s76_74, s76_75, s76_78, s76_80, Int.toNat_natCast, Int.toNat_natCast, Nat.reduceAdd, Nat.reduceMul, Int.reduceToNat, Int.reduceAdd, Int.reduceLT, Int.reduceLE, Int.reduceEq, Int.reduceNeg, Int.reduceMul, Int.reduceSub, Nat.reduceSub, reduceIte, ite_true, ite_false, and_true, true_and, and_self]
            exact ⟨G', by simp only [r76, c1, Int.toNat_natCast, Int.toNat_natCast, Int.toNat_natCast, Nat.reduceAdd, Nat.reduceMul, Int.reduceToNat, Int.reduceAdd, Int.reduceLT, Int.reduceLE, Int.reduceEq, Int.reduceNeg, Int.reduceMul, Int.reduceSub, Nat.reduceSub, reduceIte, ite_true, ite_false, and_true, true_and, and_self, or_true], rfl, hq⟩) 10 0 G 0 (-5) (by omega) (fun _ _ => rfl) hv hu hP (by omega) rfl
        have d1 : ¬ w < 0 := by omega
        have d2 : ¬ 1 < w := by omega
        simp (disch := omega) only [s76_0, s76_1, s76_5, s76_5b, s76_8, s76_9, s76_12, s76_13, s76_14, s76_17, s76_18, s76_19, s76_20, s76_21, s76_23, s76_25, s76_26, Int.toNat_natCast, Int.toNat_natCast, Nat.reduceAdd, Nat.reduceMul, Int.reduceToNat, Int.reduceAdd, Int.reduceLT, Int.reduceLE, Int.reduceEq, Int.reduceNeg, Int.reduceMul, Int.reduceSub, Nat.reduceSub, reduceIte, ite_true, ite_false, and_true, true_and, and_self, m76_2 h94, c1, d1, d2]
        exact lp)
      exact ⟨G', by rw [hr, hX] at hS; exact hS, hq⟩
    · refine ⟨G, ?_, qf_r G⟩
      refine e76 (by omega) ?_
      by_cases c3 : w < 0
      · simp (disch := omega) only [s76_0, s76_1, s76_5, s76_5b, s76_8, s76_9, s76_12, s76_13, s76_14, s76_17, s76_18, Int.toNat_natCast, Int.toNat_natCast, Nat.reduceAdd, Nat.reduceMul, Int.reduceToNat, Int.reduceAdd, Int.reduceLT, Int.reduceLE, Int.reduceEq, Int.reduceNeg, Int.reduceMul, Int.reduceSub, Nat.reduceSub, reduceIte, ite_true, ite_false, and_true, true_and, and_self, m76_2 h94, c1, c3, r76, c2, and_false]
      · have c4 : 1 < w := by omega
        simp (disch := omega) only [s76_0, s76_1, s76_5, s76_5b, s76_8, s76_9, s76_12, s76_13, s76_14, s76_17, s76_18, Int.toNat_natCast, Int.toNat_natCast, Nat.reduceAdd, Nat.reduceMul, Int.reduceToNat, Int.reduceAdd, Int.reduceLT, Int.reduceLE, Int.reduceEq, Int.reduceNeg, Int.reduceMul, Int.reduceSub, Nat.reduceSub, reduceIte, ite_true, ite_false, and_true, true_and, and_self, m76_2 h94, c1, c3, c4, r76, c2, and_false]
  · refine ⟨G, ?_, qf_r G⟩
    refine e76 (by omega) ?_
    simp (disch := omega) only [s76_0, s76_1, s76_5, s76_5b, s76_8, s76_9, s76_12, s76_13, s76_14, s76_17, s76_18, Int.toNat_natCast, Int.toNat_natCast, Nat.reduceAdd, Nat.reduceMul, Int.reduceToNat, Int.reduceAdd, Int.reduceLT, Int.reduceLE, Int.reduceEq, Int.reduceNeg, Int.reduceMul, Int.reduceSub, Nat.reduceSub, reduceIte, ite_true, ite_false, and_true, true_and, and_self, m76_2 h94, c1, r76, false_and]
