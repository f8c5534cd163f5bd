/-! rows of the abstract machine: writes, arrays, new cells, constants -/
theorem q_fit_em {g : q_G} {ty : FieldType} {v : Value} (h : q_fit ty v = true) : narrow ty (q_em g v) = q_em g v ∧ fits ty (q_em g v) = true := by
  cases v with
  | ref a =>
    simp only [q_fit, Bool.and_eq_true, decide_eq_true_eq] at h
    rw [q_em_ref h.1]
    refine ⟨?_, ?_⟩
    · cases ty <;> rfl
    · have h2 := h.2
      cases ty <;> first | exact h2 | rfl
  | _ =>
    simp only [q_fit, Bool.and_eq_true, decide_eq_true_eq] at h
    exact h
theorem q_fits_em {g : q_G} {k : Nat} {v : Value} (h1 : 16 ≤ k) (h2 : k ≤ 19) (h : fits (q_aty k) v = true) : q_em g v = v := by
  cases v with
  | ref a =>
    exfalso
    rcases (show k = 16 ∨ k = 17 ∨ k = 18 ∨ k = 19 by omega) with rfl | rfl | rfl | rfl <;> cases h
  | _ => rfl
theorem q_prim {k : Nat} (h1 : 16 ≤ k) (h2 : k ≤ 19) : refKind (q_aty k) = false := by
  rcases (show k = 16 ∨ k = 17 ∨ k = 18 ∨ k = 19 by omega) with rfl | rfl | rfl | rfl <;> rfl
theorem q_ak_ty {t : ArrayType} (h : q_ak t ≠ 99) : q_aty (q_ak t) = newarray.typeOf t ∧ 16 ≤ q_ak t ∧ q_ak t ≤ 19 := by
  cases t <;> first | exact ⟨rfl, by decide, by decide⟩ | exact absurd rfl h
section QY
variable {p : Program} {l : Launch} {e : Env} {R : Room} {s : State} {m : MethodId} {args : Array Value} {below : List Frame} {meth : Method} {c : Code} {Q : State → Prop} {g : q_G} {L n0 y : Nat} {S : Nat → Value}
theorem q_own_kind {o ci : Nat} (h : q_kd o = ci) (hc : ci < 10) : (q_clk ci).1 = q_own.getD o "" := by
  by_cases h2 : o < 20
  · subst h; exact q_kd_own o h2 hc
  · rw [q_kd_out (by omega)] at h; omega
theorem q_w_putf {cfg cfg' : q_C} {i : Nat} (K : q_Cx p s m args meth c g L S n0 y) (hdg : decode (q_mc y) cfg.1 = .ok (.putfield i, 3)) (HP : ∀ e, q_pool (q_mo y) i = some e → q_ok (q_mo y) i e) (hs : q_putf (q_pool (q_mo y)) (q_ownf y) i cfg = some (.inl cfg')) (k : q_WA p l e R s m args below meth c Q g L S n0 cfg') : q_WA p l e R s m args below meth c Q g L S n0 cfg := by
  obtain ⟨pc, vl, st, X⟩ := cfg
  obtain ⟨hx, hb, hown, hts, hK, hNF, hRO, ho, hz, hnm, hml⟩ := K
  unfold q_putf at hs
  split at hs
  · rename_i ci kf vv v a r hp hst
    change Nat at a
    have hst' : st = v :: .ref a :: r := hst
    subst hst'
    split at hs
    · rename_i hcond
      cases hs
      obtain ⟨hlive, hci, hkind, hlt, hfit, hfin⟩ := hcond
      have hlive : a < X.1 := hlive
      intro H locs ls h1 h2 h3
      have hX : X.1 ≤ 1000 := h1.2.1
      have ha : a < 1000 := by omega
      have hsl := q_sh_lo ha
      have hok := HP _ hp
      rcases hok with ⟨-, c2, c3, c4⟩ | ⟨c1, -⟩ | ⟨c1, -⟩
      · show W p l e R s m args below meth c H locs _ _ Q (F0 m pc ls (q_em g v :: q_em g (.ref a) :: _))
        rw [q_em_lo ha]
        obtain ⟨cell, q1, q2, q3, q4⟩ := q_obj h1 hlive (by omega)
        rw [hkind] at q2 q4
        have hN : (q_sh a).2 = (q_clk ci).2.2 := by rw [← hkind]; exact hsl.2.2.1 (by omega)
        have hap := q_slots_apart hK hts hci
        obtain ⟨hS, hfc, kC, hkC, hkd⟩ := q_Kn hK hci
        obtain ⟨cf, kf', fi, f, hi, hsl'⟩ := hS kf c2
        obtain ⟨hn, hft⟩ := q_fit_em (g := g) hfit
        have hd := q_ty_ok ci hci kf c2
        have hlay := hts _ (q_lays_in ci hci _ (u_in_lay c2))
        have hst := (u_facts hfc hkC (u_lays hts (q_lays_in ci hci) c2) hi).1
        have hslot : f.slot < cell.slots.size := by rw [hsl']; exact k2_hasslot (q4 kf hlt)
        have fin : ∀ H' : Heap, H'[g.1 + a]? = some (cell.setSlot f.slot (q_em g v)) → H'.size = H.size → (∀ q, q ≠ g.1 + a → H'[q]? = H[q]?) → W p l e R s m args below meth c H' (locs ++ [⟨g.1 + a, f.slot⟩]) (X.1 - n0) (q_us X.1 - q_us n0) Q (F0 m (pc + 3) ls (r.map (q_em g))) := by
          intro H' e1 e2 e3
          refine k H' _ ls (q_Rep_put (X' := q_wr X a kf v) h1 hlive rfl rfl (fun b hb => ?_) e2 e3 ?_) (q_S_put h2 e2 e3) h3
          · funext j
            show (if b = a ∧ j = kf then v else X.2.2 b j) = _
            rw [if_neg (fun q => hb q.1)]
          · unfold q_at
            rw [hkind, if_pos (by omega)]
            refine ⟨_, e1, q2, q3, fun j hj => ?_⟩
            rw [hsl', t_set q4 (fun x y hx hy => hap x y (by omega) (by omega)) hlt (q_em g v) j hj]
            show some (if j = kf then q_em g v else q_em g (X.2.2 a j)) = some (q_em g (if a = a ∧ j = kf then v else X.2.2 a j))
            by_cases hjk : j = kf
            · rw [if_pos hjk, if_pos ⟨rfl, hjk⟩]
            · rw [if_neg hjk, if_neg (fun q => hjk q.2)]
        unfold u_lay at hlay
        rcases Bool.eq_false_or_eq_true (((q_clk ci).2.1 kf).2.2.2) with hf | hf
        · rw [if_pos hf] at hlay
          have hwn : q_ownf y ci = true := by
            rcases hfin with q | q
            · have hf' : ((q_cl.getD ci (q_R0, q_T0, 0)).2.1 kf).2.2.2 = true := hf
              rw [q] at hf'
              cases hf'
            · exact q
          unfold q_ownf at hwn
          simp only [Bool.and_eq_true, beq_iff_eq] at hwn
          have hcf : m.cls = cf := by
            obtain ⟨_, _, c', _, _, _, -, -, hf', -, -, -, hown2, -⟩ := Cond.laysFinal_spec hlay
            have e1 : c' = cf := by have := hi.symm.trans hf'; simp at this; exact this.1.symm
            rw [← c4, q_own_kind hwn.2 hci, hown] at hown2
            rw [← e1]; exact Option.some.inj hown2
          have h6 := u_fits hfc hkC hkd (Or.inr hlay) hi hd hn hft
          exact W.putFinK hx hb hown (hts _ c3) (by rw [c4]; exact hi) hst hcf (hnm hwn.1) (by rw [q2]; exact h6) q1 q3 hslot rfl rfl hdg fin
        · rw [if_neg (by rw [hf]; decide)] at hlay
          have h6 := u_store hfc hkC hkd hlay hi hd hn hft
          exact W.putK hx hb (f := f) ⟨hown, hts _ c3, ⟨_, _, _, by rw [c4]; exact hi⟩, hst⟩ (by rw [q2]; exact h6) q1 q3 hslot rfl rfl hdg fin
      · exact absurd (hkind.trans c1) hsl.1
      · exact absurd (hkind.trans c1) hsl.1
    · cases hs
  · cases hs
theorem q_w_gets {cfg cfg' : q_C} {i : Nat} (K : q_Cx p s m args meth c g L S n0 y) (hdg : decode (q_mc y) cfg.1 = .ok (.getstatic i, 3)) (HP : ∀ e, q_pool (q_mo y) i = some e → q_ok (q_mo y) i e) (hs : q_gets (q_pool (q_mo y)) i cfg = some (.inl cfg')) (k : q_WA p l e R s m args below meth c Q g L S n0 cfg') : q_WA p l e R s m args below meth c Q g L S n0 cfg := by
  obtain ⟨pc, vl, st, X⟩ := cfg
  obtain ⟨hx, hb, hown, hts, hK, hNF, hRO, ho, hz, hnm, hml⟩ := K
  unfold q_gets at hs
  split at hs
  · rename_i z1 z2 v hp
    cases hs
    obtain ⟨q, hq, rfl, hl⟩ := HP _ hp
    intro H locs ls h1 h2 h3
    exact va_gets hx hb (hRO.2.1 q hq) h2 hown (hts _ hl) (fun _ h => h) hdg (k H locs ls h1 h2 h3)
  · rename_i z1 z2 v hp
    cases hs
    obtain ⟨q, hq, rfl, hl⟩ := HP _ hp
    intro H locs ls h1 h2 h3
    exact va_getsN (host := "BellsThatEat") hx hb (hRO.2.1 q hq) h2 hown (va_Nw.use (by rfl) (hNF.1 _ hl)) (fun _ h => h) hdg (k H locs ls h1 h2 h3)
  · cases hs
theorem q_w_ldc {cfg cfg' : q_C} {i : Nat} (K : q_Cx p s m args meth c g L S n0 y) (hdg : decode (q_mc y) cfg.1 = .ok (.ldc i, 2)) (HP : ∀ e, q_pool (q_mo y) i = some e → q_ok (q_mo y) i e) (hs : q_ldc (q_pool (q_mo y)) i 2 cfg = some (.inl cfg')) (k : q_WA p l e R s m args below meth c Q g L S n0 cfg') : q_WA p l e R s m args below meth c Q g L S n0 cfg := by
  obtain ⟨pc, vl, st, X⟩ := cfg
  obtain ⟨hx, hb, hown, hts, hK, hNF, hRO, ho, hz, hnm, hml⟩ := K
  unfold q_ldc at hs
  split at hs
  · rename_i z1 z2 v hp
    cases hs
    obtain ⟨z, rfl, hl⟩ := HP _ hp
    intro H locs ls h1 h2 h3
    exact lv_ldc hx hb hown (hts _ hl) hdg (k H locs ls h1 h2 h3)
  · rename_i a z1 z2 hp
    rw [if_pos rfl] at hs
    cases hs
    obtain ⟨j, q, hq, rfl, hj, h4, h5⟩ := HP _ hp
    intro H locs ls h1 h2 h3
    have k1 := k H locs ls h1 h2 h3
    simp only [List.map_cons] at k1
    rw [q_em_ref (by omega), q_ad_hi (by omega)] at k1
    have hZ := hNF.2.1 j q hq
    rw [h4, h5] at hZ
    exact va_ldcS hx hb hown hZ hdg k1
  · cases hs
theorem q_w_ldcw {cfg cfg' : q_C} {i : Nat} (K : q_Cx p s m args meth c g L S n0 y) (hdg : decode (q_mc y) cfg.1 = .ok (.ldc_w i, 3)) (HP : ∀ e, q_pool (q_mo y) i = some e → q_ok (q_mo y) i e) (hs : q_ldc (q_pool (q_mo y)) i 3 cfg = some (.inl cfg')) (k : q_WA p l e R s m args below meth c Q g L S n0 cfg') : q_WA p l e R s m args below meth c Q g L S n0 cfg := by
  obtain ⟨pc, vl, st, X⟩ := cfg
  obtain ⟨hx, hb, hown, hts, hK, hNF, hRO, ho, hz, hnm, hml⟩ := K
  unfold q_ldc at hs
  split at hs
  · rename_i z1 z2 v hp
    cases hs
    obtain ⟨z, rfl, hl⟩ := HP _ hp
    intro H locs ls h1 h2 h3
    exact lv_ldcw hx hb hown (hts _ hl) hdg (k H locs ls h1 h2 h3)
  · rw [if_neg (by decide)] at hs
    cases hs
  · cases hs
theorem q_w_ldc2 {cfg cfg' : q_C} {i : Nat} (K : q_Cx p s m args meth c g L S n0 y) (hdg : decode (q_mc y) cfg.1 = .ok (.ldc2_w i, 3)) (HP : ∀ e, q_pool (q_mo y) i = some e → q_ok (q_mo y) i e) (hs : q_ldc2 (q_pool (q_mo y)) i cfg = some (.inl cfg')) (k : q_WA p l e R s m args below meth c Q g L S n0 cfg') : q_WA p l e R s m args below meth c Q g L S n0 cfg := by
  obtain ⟨pc, vl, st, X⟩ := cfg
  obtain ⟨hx, hb, hown, hts, hK, hNF, hRO, ho, hz, hnm, hml⟩ := K
  unfold q_ldc2 at hs
  split at hs
  · rename_i z1 z2 v hp
    cases hs
    obtain ⟨z, rfl, hl⟩ := HP _ hp
    intro H locs ls h1 h2 h3
    exact lv_ldc2 hx hb hown (hts _ hl) hdg (k H locs ls h1 h2 h3)
  · cases hs
/-- an index in range, as the kit has it -/
theorem q_inr {j : Int32} {n N : Nat} (h0 : 0 ≤ j.toInt) (h1 : j.toInt < (n : Int)) (hn : N = n) : ¬ (j < 0 ∨ N ≤ j.toNatClampNeg) := by
  subst hn
  have h3 : vp_in j N := vp_in_iff.mpr ⟨h0, h1⟩
  exact h3
theorem q_clamp (j : Int32) : j.toNatClampNeg = j.toInt.toNat := rfl
theorem q_w_iald {cfg cfg' : q_C} (K : q_Cx p s m args meth c g L S n0 y) (hdg : decode (q_mc y) cfg.1 = .ok (.iaload, 1)) (hs : q_ald (fun k => k == 16) cfg = some (.inl cfg')) (k : q_WA p l e R s m args below meth c Q g L S n0 cfg') : q_WA p l e R s m args below meth c Q g L S n0 cfg := by
  obtain ⟨pc, vl, st, X⟩ := cfg
  obtain ⟨hx, hb, hown, hts, hK, hNF, hRO, ho, hz, hnm, hml⟩ := K
  unfold q_ald at hs
  split at hs
  · rename_i j a r hst
    change Nat at a
    have hst' : st = .int j :: .ref a :: r := hst
    subst hst'
    split at hs
    · rename_i hcond
      cases hs
      obtain ⟨hlive, hk, hj0, hj1⟩ := hcond
      have hlive : a < X.1 ∨ 1000 ≤ a := hlive
      have hk : (q_sh a).1 = 16 := by simpa using hk
      have hj1 : j.toInt < (q_len X a : Int) := hj1
      intro H locs ls h1 h2 h3
      have hX : X.1 ≤ 1000 := h1.2.1
      have k1 := k H locs ls h1 h2 h3
      simp only [List.map_cons] at k1
      show W p l e R s m args below meth c H locs _ _ Q (F0 m pc ls (.int j :: q_em g (.ref a) :: _))
      by_cases halo : a < X.1
      · have ha : a < 1000 := by omega
        rw [q_em_lo ha]
        have hA := q_arr h1 halo (by omega)
        rw [hk] at hA
        have hlen : q_len X a = (q_sh a).2 := by unfold q_len; rw [if_neg (by omega)]
        rw [hlen] at hj1
        refine W.iald hx hb hA ((q_Ka hK (k := 16) (by omega) (by omega)).1 _ _) (fun q => by cases q) (q_inr hj0 hj1 (arrV_size _ _ _)) (arrV_read _ _ (by rw [q_clamp]; omega)) rfl rfl hdg ?_
        rw [q_rd_lo (by omega)] at k1
        exact k1
      · have ha : 1000 ≤ a := hlive.elim (fun h => absurd h halo) id
        have ha3 : a ≤ 1003 := by
          rcases q_sh_hi ha with ⟨-, z⟩ | ⟨z, -⟩ | ⟨z, -⟩ | z <;> omega
        rw [q_em_ref (by omega), q_ad_hi ha]
        have hT := hRO.1 a ha ha3
        have hL : q_len (0, L, fun _ => S) a = q_len X a := by
          unfold q_len
          split
          · exact h1.2.2.1.1.symm
          · rfl
        rw [hL] at hT
        refine va_ti hx hb hT h2 (q_inr hj0 hj1 rfl) (v := q_em g (q_rd X a j.toInt.toNat)) ?_ hdg k1
        rw [q_clamp]
        congr 1
        by_cases h1000 : a = 1000
        · subst h1000
          rw [q_rd_lo (Nat.le_refl _), q_rd_lo (Nat.le_refl _)]
          show S _ = _
          rw [← h1.2.2.1.2]
        · rw [q_rd_hi (by omega), q_rd_hi (by omega)]
    · cases hs
  · cases hs
theorem q_w_lald {cfg cfg' : q_C} (K : q_Cx p s m args meth c g L S n0 y) (hdg : decode (q_mc y) cfg.1 = .ok (.laload, 1)) (hs : q_ald (fun k => k == 17) cfg = some (.inl cfg')) (k : q_WA p l e R s m args below meth c Q g L S n0 cfg') : q_WA p l e R s m args below meth c Q g L S n0 cfg := by
  obtain ⟨pc, vl, st, X⟩ := cfg
  obtain ⟨hx, hb, hown, hts, hK, hNF, hRO, ho, hz, hnm, hml⟩ := K
  unfold q_ald at hs
  split at hs
  · rename_i j a r hst
    change Nat at a
    have hst' : st = .int j :: .ref a :: r := hst
    subst hst'
    split at hs
    · rename_i hcond
      cases hs
      obtain ⟨hlive, hk, hj0, hj1⟩ := hcond
      have hlive : a < X.1 ∨ 1000 ≤ a := hlive
      have hk : (q_sh a).1 = 17 := by simpa using hk
      have hj1 : j.toInt < (q_len X a : Int) := hj1
      intro H locs ls h1 h2 h3
      have hX : X.1 ≤ 1000 := h1.2.1
      have k1 := k H locs ls h1 h2 h3
      simp only [List.map_cons] at k1
      show W p l e R s m args below meth c H locs _ _ Q (F0 m pc ls (.int j :: q_em g (.ref a) :: _))
      by_cases halo : a < X.1
      · have ha : a < 1000 := by omega
        rw [q_em_lo ha]
        have hA := q_arr h1 halo (by omega)
        rw [hk] at hA
        have hlen : q_len X a = (q_sh a).2 := by unfold q_len; rw [if_neg (by omega)]
        rw [hlen] at hj1
        refine W.lald hx hb hA ((q_Ka hK (k := 17) (by omega) (by omega)).1 _ _) (fun q => by cases q) (q_inr hj0 hj1 (arrV_size _ _ _)) (arrV_read _ _ (by rw [q_clamp]; omega)) rfl rfl hdg ?_
        rw [q_rd_lo (by omega)] at k1
        exact k1
      · have ha : 1000 ≤ a := hlive.elim (fun h => absurd h halo) id
        exfalso
        rcases q_sh_hi ha with ⟨z, -⟩ | ⟨z, -⟩ | ⟨z, -⟩ | z <;> omega
    · cases hs
  · cases hs
theorem q_w_aald {cfg cfg' : q_C} (K : q_Cx p s m args meth c g L S n0 y) (hdg : decode (q_mc y) cfg.1 = .ok (.aaload, 1)) (hs : q_ald (fun k => k == 20 || k == 21) cfg = some (.inl cfg')) (k : q_WA p l e R s m args below meth c Q g L S n0 cfg') : q_WA p l e R s m args below meth c Q g L S n0 cfg := by
  obtain ⟨pc, vl, st, X⟩ := cfg
  obtain ⟨hx, hb, hown, hts, hK, hNF, hRO, ho, hz, hnm, hml⟩ := K
  unfold q_ald at hs
  split at hs
  · rename_i j a r hst
    change Nat at a
    have hst' : st = .int j :: .ref a :: r := hst
    subst hst'
    split at hs
    · rename_i hcond
      cases hs
      obtain ⟨hlive, hk, hj0, hj1⟩ := hcond
      have hlive : a < X.1 ∨ 1000 ≤ a := hlive
      have hk : (q_sh a).1 = 20 ∨ (q_sh a).1 = 21 := by simpa using hk
      have hj1 : j.toInt < (q_len X a : Int) := hj1
      intro H locs ls h1 h2 h3
      have hX : X.1 ≤ 1000 := h1.2.1
      have k1 := k H locs ls h1 h2 h3
      simp only [List.map_cons] at k1
      show W p l e R s m args below meth c H locs _ _ Q (F0 m pc ls (.int j :: q_em g (.ref a) :: _))
      by_cases halo : a < X.1
      · have ha : a < 1000 := by omega
        rw [q_em_lo ha]
        have hA := q_arr h1 halo (by omega)
        have hlen : q_len X a = (q_sh a).2 := by unfold q_len; rw [if_neg (by omega)]
        rw [hlen] at hj1
        rw [q_rd_lo (by omega)] at k1
        have hty : (q_aty (q_sh a).1).isReference = true := by rcases hk with h | h <;> rw [h] <;> rfl
        exact W.aald hx hb hA ((q_Ka hK (k := (q_sh a).1) (by omega) (by omega)).1 _ _) hty (fun q => by cases q) (q_inr hj0 hj1 (arrV_size _ _ _)) (arrV_read _ _ (by rw [q_clamp]; omega)) rfl rfl hdg k1
      · have ha : 1000 ≤ a := hlive.elim (fun h => absurd h halo) id
        exfalso
        rcases q_sh_hi ha with ⟨z, -⟩ | ⟨z, -⟩ | ⟨z, -⟩ | z <;> omega
    · cases hs
  · cases hs
theorem q_w_bald {cfg cfg' : q_C} (K : q_Cx p s m args meth c g L S n0 y) (hdg : decode (q_mc y) cfg.1 = .ok (.baload, 1)) (hs : q_ald (fun k => k == 18 || k == 19) cfg = some (.inl cfg')) (k : q_WA p l e R s m args below meth c Q g L S n0 cfg') : q_WA p l e R s m args below meth c Q g L S n0 cfg := by
  obtain ⟨pc, vl, st, X⟩ := cfg
  obtain ⟨hx, hb, hown, hts, hK, hNF, hRO, ho, hz, hnm, hml⟩ := K
  unfold q_ald at hs
  split at hs
  · rename_i j a r hst
    change Nat at a
    have hst' : st = .int j :: .ref a :: r := hst
    subst hst'
    split at hs
    · rename_i hcond
      cases hs
      obtain ⟨hlive, hk, hj0, hj1⟩ := hcond
      have hlive : a < X.1 ∨ 1000 ≤ a := hlive
      have hk : (q_sh a).1 = 18 ∨ (q_sh a).1 = 19 := by simpa using hk
      have hj1 : j.toInt < (q_len X a : Int) := hj1
      have hlen : a ≠ 1000 → q_len X a = (q_sh a).2 := fun h => by unfold q_len; rw [if_neg h]
      intro H locs ls h1 h2 h3
      have hX : X.1 ≤ 1000 := h1.2.1
      have k1 := k H locs ls h1 h2 h3
      simp only [List.map_cons] at k1
      show W p l e R s m args below meth c H locs _ _ Q (F0 m pc ls (.int j :: q_em g (.ref a) :: _))
      by_cases halo : a < X.1
      · have ha : a < 1000 := by omega
        rw [q_em_lo ha]
        have hA := q_arr h1 halo (by omega)
        rw [hlen (by omega)] at hj1
        rw [q_rd_lo (by omega)] at k1
        rcases hk with h | h
        · rw [h] at hA
          exact W.bald hx hb hA ((q_Ka hK (k := 18) (by omega) (by omega)).1 _ _) (fun q => by cases q) (q_inr hj0 hj1 (arrV_size _ _ _)) (arrV_read _ _ (by rw [q_clamp]; omega)) rfl rfl hdg k1
        · rw [h] at hA
          exact W.zald hx hb hA ((q_Ka hK (k := 19) (by omega) (by omega)).1 _ _) (fun q => by cases q) (q_inr hj0 hj1 (arrV_size _ _ _)) (arrV_read _ _ (by rw [q_clamp]; omega)) rfl rfl hdg k1
      · have ha : 1000 ≤ a := hlive.elim (fun h => absurd h halo) id
        have hi : ∃ i, i < 6 ∧ a = 1020 + i ∧ (q_sh a).2 = q_stl.getD i 0 := by
          rcases q_sh_hi ha with ⟨z, -⟩ | ⟨z, -⟩ | ⟨z, zz⟩ | z
          · omega
          · omega
          · exact zz
          · omega
        obtain ⟨i, hi6, rfl, hN⟩ := hi
        rw [hlen (by omega), hN] at hj1
        rw [q_em_ref (by omega), q_ad_hi ha]
        obtain ⟨-, -, -, hT⟩ := hRO.2.2.1 i hi6
        refine va_tb hx hb hT h2 (q_inr hj0 hj1 rfl) (v := q_em g (q_rd X (1020 + i) j.toInt.toNat)) ?_ hdg k1
        rw [q_rd_hi (by omega), q_clamp]
        rcases (show i = 0 ∨ i = 1 ∨ i = 2 ∨ i = 3 ∨ i = 4 ∨ i = 5 by omega) with rfl | rfl | rfl | rfl | rfl | rfl <;> rfl
    · cases hs
  · cases hs
end QY
