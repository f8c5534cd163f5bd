/-! rows of the abstract machine: stores into arrays, lengths, new cells, copies, Object's constructor -/
section QZ
variable {p : Program} {l : Launch} {e : Env} {R : Room} {s : State} {m : MethodId} {args : Array Value} {below : List Frame} {meth : Method} {c : Code} {Q : State → Prop} {g : q_G} {L n0 y : Nat} {S : Nat → Value}
/-- an array's place is written -/
theorem q_Rep_ast {g : q_G} {L : Nat} {S : Nat → Value} {X : q_H} {H H' : Heap} {a : Nat} {i : Nat} {v : Value} (h : q_Rep g L S X H) (ha : a < X.1) (hk : 16 ≤ (q_sh a).1) (hz : H'.size = H.size) (ho : ∀ q, q ≠ g.1 + a → H'[q]? = H[q]?) (hn : H'[g.1 + a]? = some ((arrV (g.2.2.2.1 (q_sh a).1) (q_sh a).2 (fun j => q_em g (X.2.2 a j))).setSlot i (q_em g v))) : q_Rep g L S (q_wr X a i v) H' := by
  refine q_Rep_put (X' := q_wr X a i v) h ha rfl rfl (fun b hb => ?_) hz ho ?_
  · funext j
    show (if b = a ∧ j = i then v else X.2.2 b j) = _
    rw [if_neg (fun q => hb q.1)]
  · unfold q_at
    rw [if_neg (by omega), hn, arrV_store]
    congr 2
    funext j
    show (if j = i then q_em g v else q_em g (X.2.2 a j)) = q_em g (if a = a ∧ j = i then v else X.2.2 a j)
    by_cases hj : j = i
    · rw [if_pos hj, if_pos ⟨rfl, hj⟩]
    · rw [if_neg hj, if_neg (fun q => hj q.2)]
theorem q_w_iast {cfg cfg' : q_C} (K : q_Cx p s m args meth c g L S n0 y) (hdg : decode (q_mc y) cfg.1 = .ok (.iastore, 1)) (hs : q_sti1 cfg = some (.inl cfg')) (k : q_WA p l e R s m args below meth c Q g L S n0 cfg') : q_WA p l e R s m args below meth c Q g L S n0 cfg := by
  obtain ⟨pc, vl, st, X⟩ := cfg
  obtain ⟨hx, hb, hown, hts, hK, hNF, hRO, ho, hz, hnm, hml⟩ := K
  unfold q_sti1 at hs
  split at hs
  · rename_i x j a r hst
    change Nat at a
    have hst' : st = .int x :: .int j :: .ref a :: r := hst
    subst hst'
    split at hs
    · rename_i hcond
      cases hs
      obtain ⟨hlive, hk, hj0, hj1⟩ := hcond
      have hlive : a < X.1 := hlive
      intro H locs ls h1 h2 h3
      have hX : X.1 ≤ 1000 := h1.2.1
      show W p l e R s m args below meth c H locs _ _ Q (F0 m pc ls (.int x :: .int j :: q_em g (.ref a) :: _))
      rw [q_em_lo (by omega)]
      have hA := q_arr h1 hlive (by omega)
      refine W.iast hx hb hA (by rw [hk]; exact (q_Ka hK (k := 16) (by omega) (by omega)).1 _ _) (fun q => by cases q) (q_inr hj0 hj1 (arrV_size _ _ _)) rfl rfl hdg fun H' e1 e2 e3 => ?_
      exact k H' _ ls (q_Rep_ast h1 hlive (by omega) e2 e3 e1) (q_S_put h2 e2 e3) h3
    · cases hs
  · cases hs
theorem q_w_last {cfg cfg' : q_C} (K : q_Cx p s m args meth c g L S n0 y) (hdg : decode (q_mc y) cfg.1 = .ok (.lastore, 1)) (hs : q_stj1 cfg = some (.inl cfg')) (k : q_WA p l e R s m args below meth c Q g L S n0 cfg') : q_WA p l e R s m args below meth c Q g L S n0 cfg := by
  obtain ⟨pc, vl, st, X⟩ := cfg
  obtain ⟨hx, hb, hown, hts, hK, hNF, hRO, ho, hz, hnm, hml⟩ := K
  unfold q_stj1 at hs
  split at hs
  · rename_i x j a r hst
    change Nat at a
    have hst' : st = .long x :: .int j :: .ref a :: r := hst
    subst hst'
    split at hs
    · rename_i hcond
      cases hs
      obtain ⟨hlive, hk, hj0, hj1⟩ := hcond
      have hlive : a < X.1 := hlive
      intro H locs ls h1 h2 h3
      have hX : X.1 ≤ 1000 := h1.2.1
      show W p l e R s m args below meth c H locs _ _ Q (F0 m pc ls (.long x :: .int j :: q_em g (.ref a) :: _))
      rw [q_em_lo (by omega)]
      have hA := q_arr h1 hlive (by omega)
      refine W.last hx hb hA (by rw [hk]; exact (q_Ka hK (k := 17) (by omega) (by omega)).1 _ _) (fun q => by cases q) (q_inr hj0 hj1 (arrV_size _ _ _)) rfl rfl hdg fun H' e1 e2 e3 => ?_
      exact k H' _ ls (q_Rep_ast h1 hlive (by omega) e2 e3 e1) (q_S_put h2 e2 e3) h3
    · cases hs
  · cases hs
theorem q_w_bast {cfg cfg' : q_C} (K : q_Cx p s m args meth c g L S n0 y) (hdg : decode (q_mc y) cfg.1 = .ok (.bastore, 1)) (hs : q_stb1 cfg = some (.inl cfg')) (k : q_WA p l e R s m args below meth c Q g L S n0 cfg') : q_WA p l e R s m args below meth c Q g L S n0 cfg := by
  obtain ⟨pc, vl, st, X⟩ := cfg
  obtain ⟨hx, hb, hown, hts, hK, hNF, hRO, ho, hz, hnm, hml⟩ := K
  unfold q_stb1 at hs
  split at hs
  · rename_i x j a r hst
    change Nat at a
    have hst' : st = .int x :: .int j :: .ref a :: r := hst
    subst hst'
    split at hs
    · rename_i hcond
      cases hs
      obtain ⟨hlive, hk, hj0, hj1⟩ := hcond
      have hlive : a < X.1 := hlive
      intro H locs ls h1 h2 h3
      have hX : X.1 ≤ 1000 := h1.2.1
      show W p l e R s m args below meth c H locs _ _ Q (F0 m pc ls (.int x :: .int j :: q_em g (.ref a) :: _))
      rw [q_em_lo (by omega)]
      rcases hk with hk | hk
      · have hA := q_arr h1 hlive (by omega)
        refine W.bast hx hb hA (by rw [hk]; exact (q_Ka hK (k := 18) (by omega) (by omega)).1 _ _) (fun q => by cases q) (q_inr hj0 hj1 (arrV_size _ _ _)) rfl rfl hdg fun H' e1 e2 e3 => ?_
        refine k H' _ ls (q_Rep_ast h1 hlive (by omega) e2 e3 (e1.trans ?_)) (q_S_put h2 e2 e3) h3
        rw [hk]; rfl
      · have hA := q_arr h1 hlive (by omega)
        refine W.zast hx hb hA (by rw [hk]; exact (q_Ka hK (k := 19) (by omega) (by omega)).1 _ _) (fun q => by cases q) (q_inr hj0 hj1 (arrV_size _ _ _)) rfl rfl hdg fun H' e1 e2 e3 => ?_
        refine k H' _ ls (q_Rep_ast h1 hlive (by omega) e2 e3 (e1.trans ?_)) (q_S_put h2 e2 e3) h3
        rw [hk]; rfl
    · cases hs
  · cases hs
theorem q_w_aast {cfg cfg' : q_C} (K : q_Cx p s m args meth c g L S n0 y) (hdg : decode (q_mc y) cfg.1 = .ok (.aastore, 1)) (hs : q_str1 cfg = some (.inl cfg')) (k : q_WA p l e R s m args below meth c Q g L S n0 cfg') : q_WA p l e R s m args below meth c Q g L S n0 cfg := by
  obtain ⟨pc, vl, st, X⟩ := cfg
  obtain ⟨hx, hb, hown, hts, hK, hNF, hRO, ho, hz, hnm, hml⟩ := K
  unfold q_str1 at hs
  split at hs
  · rename_i v j a r hst
    change Nat at a
    change Nat at v
    have hst' : st = .ref v :: .int j :: .ref a :: r := hst
    subst hst'
    split at hs
    · rename_i hcond
      cases hs
      obtain ⟨hlive, hlv, hk, hj0, hj1⟩ := hcond
      have hlive : a < X.1 := hlive
      have hlv : v < X.1 := hlv
      intro H locs ls h1 h2 h3
      have hX : X.1 ≤ 1000 := h1.2.1
      show W p l e R s m args below meth c H locs _ _ Q (F0 m pc ls (q_em g (.ref v) :: .int j :: q_em g (.ref a) :: _))
      rw [q_em_lo (show a < 1000 by omega), q_em_lo (show v < 1000 by omega)]
      have hA := q_arr h1 hlive (by omega)
      have hkv : (q_sh v).1 < 10 := by omega
      obtain ⟨cellV, g1, g2, g3, -⟩ := q_obj h1 hlv (by omega)
      have hcls := (q_Kn hK hkv).2
      have hAty := q_Ka hK (k := (q_sh a).1) (by omega) (by omega)
      have hC : q_aty (q_sh a).1 = .object (q_clk (q_sh v).1).1 := by
        rcases hk with ⟨h, h'⟩ | ⟨h, h'⟩ <;> rw [h, h'] <;> rfl
      rw [hC] at hAty
      obtain ⟨kA, comp, k1, k2, k3, -⟩ := hAty.2
      have hcomp : comp = g.2.2.2.1 (q_sh v).1 := Option.some.inj (k3.symm.trans hcls.1)
      subst hcomp
      obtain ⟨kC, hkC, -⟩ := hcls.2
      refine W.aast hx hb hA (fun q h => by cases h) (fun h => by cases h) k1 k2 rfl hkC ⟨fun q => (q_inr hj0 hj1 rfl) (Or.inl q), by rw [arrV_size]; exact Nat.not_le.mp fun q => (q_inr hj0 hj1 rfl) (Or.inr q)⟩ g1 (fun q h => by rw [g3] at h; cases h) (by rw [g2]; exact hkC) (by rw [g2]; exact va_assign hcls) rfl rfl hdg fun H' e1 e2 e3 => ?_
      refine k H' _ ls (q_Rep_ast (v := .ref v) h1 hlive (by omega) e2 e3 (e1.trans ?_)) (q_S_put h2 e2 e3) h3
      rw [q_em_lo (show v < 1000 by omega)]
      rfl
    · cases hs
  · cases hs
theorem q_w_alen {cfg cfg' : q_C} (K : q_Cx p s m args meth c g L S n0 y) (hdg : decode (q_mc y) cfg.1 = .ok (.arraylength, 1)) (hs : q_alen cfg = some (.inl cfg')) (k : q_WA p l e R s m args below meth c Q g L S n0 cfg') : q_WA p l e R s m args below meth c Q g L S n0 cfg := by
  obtain ⟨pc, vl, st, X⟩ := cfg
  obtain ⟨hx, hb, hown, hts, hK, hNF, hRO, ho, hz, hnm, hml⟩ := K
  unfold q_alen at hs
  split at hs
  · rename_i a r hst
    change Nat at a
    have hst' : st = .ref a :: r := hst
    subst hst'
    split at hs
    · rename_i hcond
      cases hs
      obtain ⟨hlive, hk1, hk2⟩ := hcond
      have hlive : a < X.1 ∨ 1000 ≤ a := hlive
      have hlen : a ≠ 1000 → q_len X a = (q_sh a).2 := fun h => by unfold q_len; rw [if_neg h]
      intro H locs ls h1 h2 h3
      have hX : X.1 ≤ 1000 := h1.2.1
      have k1 := k H locs ls h1 h2 h3
      simp only [List.map_cons] at k1
      show W p l e R s m args below meth c H locs _ _ Q (F0 m pc ls (q_em g (.ref a) :: _))
      by_cases halo : a < X.1
      · rw [q_em_lo (by omega)]
        have hA := q_arr h1 halo (by omega)
        rw [hlen (by omega)] at k1
        exact W.alen (n := Int32.ofNat (q_sh a).2) hx hb hA ((q_Ka hK hk1 hk2).1 _ _) (by rw [arrV_size] <;> rfl) rfl rfl hdg k1
      · have ha : 1000 ≤ a := hlive.elim (fun h => absurd h halo) id
        have hne : a ≠ 1004 := by
          rcases q_sh_hi ha with ⟨z, z2⟩ | ⟨z, -⟩ | ⟨z, i, hi6, rfl, hN⟩ | z <;> omega
        rw [q_em_ref hne, q_ad_hi ha]
        rcases q_sh_hi ha with ⟨z, z2⟩ | ⟨z, -⟩ | ⟨z, i, hi6, rfl, hN⟩ | z
        · have hT := hRO.1 a ha z2
          have hL : q_len (0, L, fun _ => S) a = q_len X a := by
            unfold q_len
            split
            · exact h1.2.2.1.1.symm
            · rfl
          rw [hL] at hT
          exact va_tlen hx hb hT h2 rfl hdg k1
        · omega
        · obtain ⟨-, -, -, hT⟩ := hRO.2.2.1 i hi6
          rw [hlen (by omega), hN] at k1
          exact va_tlen hx hb hT h2 rfl hdg k1
        · omega
    · cases hs
  · cases hs
theorem q_w_new {cfg cfg' : q_C} {i : Nat} (K : q_Cx p s m args meth c g L S n0 y) (hdg : decode (q_mc y) cfg.1 = .ok (.new i, 3)) (HP : ∀ e, q_pool (q_mo y) i = some e → q_ok (q_mo y) i e) (hs : q_new (q_pool (q_mo y)) i cfg = some (.inl cfg')) (hn0 : n0 ≤ cfg.2.2.2.1) (hcap : cfg'.2.2.2.1 - n0 ≤ R.cells ∧ q_us cfg'.2.2.2.1 - q_us n0 ≤ R.slots) (k : q_WA p l e R s m args below meth c Q g L S n0 cfg') : q_WA p l e R s m args below meth c Q g L S n0 cfg := by
  obtain ⟨pc, vl, st, X⟩ := cfg
  obtain ⟨hx, hb, hown, hts, hK, hNF, hRO, ho, hz, hnm, hml⟩ := K
  unfold q_new at hs
  split at hs
  · rename_i ci z1 z2 hp
    split at hs
    · rename_i hcond
      cases hs
      obtain ⟨hX, hci, hsh⟩ := hcond
      have hX : X.1 < 1000 := hX
      have hn0 : n0 ≤ X.1 := hn0
      have hsh : q_sh X.1 = (ci, (q_clk ci).2.2) := hsh
      obtain ⟨c1, c2, c3, c4⟩ := HP _ hp
      have hu : q_us (X.1 + 1) = q_us X.1 + (q_clk ci).2.2 := by show q_us X.1 + (q_sh X.1).2 = _; rw [hsh]
      have hum := q_us_mono hn0
      have hcap : X.1 + 1 - n0 ≤ R.cells ∧ q_us (X.1 + 1) - q_us n0 ≤ R.slots := hcap
      intro H locs ls h1 h2 h3
      have hKn := q_Kn hK hci
      refine W.newcK hx hb hown (hts _ c2) (hts _ c3) (hts _ c4) rfl hdg (by show X.1 - n0 + 1 ≤ _; omega) (by show q_us X.1 - q_us n0 + _ ≤ _; omega) hKn.2.1 rfl fun H1 kC hkC e1 z1 o1 => ?_
      have hR := q_Rep_new (f := fun j => defaultValue (q_ty ci j)) h1 hX z1 o1 (by
        unfold q_at
        rw [hsh, if_pos (by show ci < 16; omega)]
        refine (u_born (q_ty ci) hts (q_lays_in ci hci) hKn hkC e1 (q_ty_ok ci hci)).to fun j hj => ?_
        generalize q_ty ci j = t
        cases t <;> rfl)
      have k1 := k H1 locs ls hR (q_S_new h2 z1 o1) h3
      have eH : g.1 + X.1 = H.size := h1.1.symm
      simp only [List.map_cons] at k1
      rw [q_em_lo hX, eH] at k1
      refine W.cs ?_ ?_ k1
      · show X.1 - n0 + 1 = X.1 + 1 - n0
        omega
      · show q_us X.1 - q_us n0 + _ = q_us (X.1 + 1) - q_us n0
        omega
    · cases hs
  · cases hs
theorem q_w_newa {cfg cfg' : q_C} {t : ArrayType} (K : q_Cx p s m args meth c g L S n0 y) (hdg : decode (q_mc y) cfg.1 = .ok (.newarray t, 2)) (hs : q_newa t cfg = some (.inl cfg')) (hn0 : n0 ≤ cfg.2.2.2.1) (hcap : cfg'.2.2.2.1 - n0 ≤ R.cells ∧ q_us cfg'.2.2.2.1 - q_us n0 ≤ R.slots) (k : q_WA p l e R s m args below meth c Q g L S n0 cfg') : q_WA p l e R s m args below meth c Q g L S n0 cfg := by
  obtain ⟨pc, vl, st, X⟩ := cfg
  obtain ⟨hx, hb, hown, hts, hK, hNF, hRO, ho, hz, hnm, hml⟩ := K
  unfold q_newa at hs
  split at hs
  · rename_i n r hst
    have hst' : st = .int n :: r := hst
    subst hst'
    split at hs
    · rename_i hcond
      cases hs
      obtain ⟨hX, hn, hak, hbig, hsh⟩ := hcond
      have hX : X.1 < 1000 := hX
      have hn0 : n0 ≤ X.1 := hn0
      have hsh : q_sh X.1 = (q_ak t, n.toInt.toNat) := hsh
      obtain ⟨t1, t2, t3⟩ := q_ak_ty hak
      have hu : q_us (X.1 + 1) = q_us X.1 + n.toInt.toNat := by show q_us X.1 + (q_sh X.1).2 = _; rw [hsh]
      have hum := q_us_mono hn0
      have hcap : X.1 + 1 - n0 ≤ R.cells ∧ q_us (X.1 + 1) - q_us n0 ≤ R.slots := hcap
      intro H locs ls h1 h2 h3
      have hnn : ¬ n < 0 := by rw [Int32.lt_iff_toInt_lt, Int32.toInt_zero]; omega
      have hbytes : n.toInt.toNat * componentBytes (newarray.typeOf t) ≤ 536870912 := by
        have hc : componentBytes (newarray.typeOf t) ≤ 8 := by cases t <;> decide
        have h5 : n.toInt.toNat ≤ 100000 := by omega
        calc n.toInt.toNat * componentBytes (newarray.typeOf t) ≤ 100000 * 8 := Nat.mul_le_mul h5 hc
          _ ≤ 536870912 := by decide
      refine va_newaK hx hb (hts _ (q_arr_in t hak)) rfl hdg rfl hnn (q_clamp n) hbytes (by show X.1 - n0 + 1 ≤ _; omega) (by show q_us X.1 - q_us n0 + _ ≤ _; omega) rfl fun H1 cA e1 z1 o1 hA hf => ?_
      have hcA : cA = g.2.2.2.1 (q_ak t) := by
        have h6 := (q_Ka hK t2 (by omega)).2
        rw [t1] at h6
        cases t <;> first | exact Option.some.inj (hf.symm.trans h6) | exact absurd rfl hak
      have hR := q_Rep_new (f := fun _ => defaultValue (q_aty (q_ak t))) h1 hX z1 o1 (by
        unfold q_at
        rw [hsh, if_neg (by show ¬ q_ak t < 16; omega), e1, hcA, t1]
        congr 2
        funext j
        cases t <;> rfl)
      have k1 := k H1 locs ls hR (q_S_new h2 z1 o1) h3
      have eH : g.1 + X.1 = H.size := h1.1.symm
      simp only [List.map_cons] at k1
      rw [q_em_lo hX, eH] at k1
      refine W.cs ?_ ?_ k1
      · show X.1 - n0 + 1 = X.1 + 1 - n0
        omega
      · show q_us X.1 - q_us n0 + _ = q_us (X.1 + 1) - q_us n0
        omega
    · cases hs
  · cases hs
theorem q_w_newr {cfg cfg' : q_C} {i : Nat} (K : q_Cx p s m args meth c g L S n0 y) (hdg : decode (q_mc y) cfg.1 = .ok (.anewarray i, 3)) (HP : ∀ e, q_pool (q_mo y) i = some e → q_ok (q_mo y) i e) (hs : q_newr (q_pool (q_mo y)) i cfg = some (.inl cfg')) (hn0 : n0 ≤ cfg.2.2.2.1) (hcap : cfg'.2.2.2.1 - n0 ≤ R.cells ∧ q_us cfg'.2.2.2.1 - q_us n0 ≤ R.slots) (k : q_WA p l e R s m args below meth c Q g L S n0 cfg') : q_WA p l e R s m args below meth c Q g L S n0 cfg := by
  obtain ⟨pc, vl, st, X⟩ := cfg
  obtain ⟨hx, hb, hown, hts, hK, hNF, hRO, ho, hz, hnm, hml⟩ := K
  unfold q_newr at hs
  split at hs
  · rename_i ci z1 z2 n r hp hst
    have hst' : st = .int n :: r := hst
    subst hst'
    split at hs
    · rename_i hcond
      cases hs
      obtain ⟨hX, hn, hbig, hci, hsh⟩ := hcond
      have hX : X.1 < 1000 := hX
      have hn0 : n0 ≤ X.1 := hn0
      have hsh : q_sh X.1 = (27 - ci, n.toInt.toNat) := hsh
      obtain ⟨c1, c2, c3, c4⟩ := HP _ hp
      have hu : q_us (X.1 + 1) = q_us X.1 + n.toInt.toNat := by show q_us X.1 + (q_sh X.1).2 = _; rw [hsh]
      have hum := q_us_mono hn0
      have hcap : X.1 + 1 - n0 ≤ R.cells ∧ q_us (X.1 + 1) - q_us n0 ≤ R.slots := hcap
      intro H locs ls h1 h2 h3
      have hnn : ¬ n < 0 := by rw [Int32.lt_iff_toInt_lt, Int32.toInt_zero]; omega
      have hover : va_AO (q_clk ci).1 s := by
        rcases hci with rfl | rfl
        · exact hNF.2.2.1
        · exact hNF.2.2.2
      refine W.anew hx hb hown (hts _ c2) (va_AO.use hover) rfl hdg rfl hnn (by rw [q_clamp]; omega) (by show X.1 - n0 + 1 ≤ _; omega) (by rw [q_clamp]; show q_us X.1 - q_us n0 + _ ≤ _; omega) fun cA kA comp f1 f2 f3 f4 => ?_
      generalize hH1 : H.push ({ cls := cA, slots := Array.replicate n.toNatClampNeg .null, vm := .none } : Cell) = H1
      have z1 : H1.size = H.size + 1 := by rw [← hH1, Array.size_push]
      have e1 : H1[H.size]? = some (arrV cA n.toNatClampNeg (fun _ => .null)) := by rw [← hH1, Array.getElem?_push_size, ← arrV_new]
      have o1 : ∀ q : Nat, q < H.size → H1[q]? = H[q]? := fun q hq => by rw [← hH1, Array.getElem?_push, if_neg (Nat.ne_of_lt hq)]
      have hcA : cA = g.2.2.2.1 (27 - ci) := by
        have h6 := (q_Ka hK (k := 27 - ci) (by omega) (by omega)).2
        rcases hci with rfl | rfl
        · obtain ⟨_, _, _, _, _, h7⟩ := h6
          exact Option.some.inj (f1.symm.trans h7)
        · obtain ⟨_, _, _, _, _, h7⟩ := h6
          exact Option.some.inj (f1.symm.trans h7)
      have hR := q_Rep_new (f := fun _ => .null) h1 hX z1 o1 (by
        unfold q_at
        rw [hsh, if_neg (by show ¬ 27 - ci < 16; omega), e1, hcA, q_clamp]
        rfl)
      have k1 := k H1 locs ls hR (q_S_new h2 z1 o1) h3
      have eH : g.1 + X.1 = H.size := h1.1.symm
      simp only [List.map_cons] at k1
      rw [q_em_lo hX, eH] at k1
      refine W.cs ?_ ?_ k1
      · show X.1 - n0 + 1 = X.1 + 1 - n0
        omega
      · rw [q_clamp]
        show q_us X.1 - q_us n0 + _ = q_us (X.1 + 1) - q_us n0
        omega
    · cases hs
  · cases hs
theorem q_w_copy {cfg cfg' : q_C} {i z1 z2 : Nat} {z3 : Value} (K : q_Cx p s m args meth c g L S n0 y) (hdg : decode (q_mc y) cfg.1 = .ok (.invokestatic i, 3)) (hp : q_ok (q_mo y) i (10, z1, z2, z3)) (hroom : 1 ≤ R.frames ∧ 8 + (nativeFrameWords "java/lang/System" "arraycopy" 5 + 11) ≤ R.locals) (hs : q_copy cfg = some (.inl cfg')) (k : q_WA p l e R s m args below meth c Q g L S n0 cfg') : q_WA p l e R s m args below meth c Q g L S n0 cfg := by
  obtain ⟨pc, vl, st, X⟩ := cfg
  obtain ⟨hx, hb, hown, hts, hK, hNF, hRO, ho, hz, hnm, hml⟩ := K
  obtain ⟨p1, p2, p3, p4⟩ := hp
  unfold q_copy at hs
  split at hs
  · rename_i n dp d sp a r hst
    change Nat at a
    change Nat at d
    have hst' : st = .int n :: .int dp :: .ref d :: .int sp :: .ref a :: r := hst
    subst hst'
    split at hs
    · rename_i hcond
      cases hs
      obtain ⟨hwt, hla, hld, hk, hk1, hk2, hn, hsp, hdp, hin1, hin2, hfit⟩ := hcond
      have hla : a < X.1 := hla
      have hld : d < X.1 := hld
      have hfit : ∀ i, i < n.toInt.toNat → fits (q_aty (q_sh a).1) (X.2.2 a (sp.toInt.toNat + i)) = true := hfit
      intro H locs ls h1 h2 h3
      have hX : X.1 ≤ 1000 := h1.2.1
      show W p l e R s m args below meth c H locs _ _ Q (F0 m pc ls (.int n :: .int dp :: q_em g (.ref d) :: .int sp :: q_em g (.ref a) :: _))
      rw [q_em_lo (show a < 1000 by omega), q_em_lo (show d < 1000 by omega)]
      have hA := q_arr h1 hla (by omega)
      have hD := q_arr h1 hld (by omega)
      rw [← hk] at hD
      generalize hT : q_aty (q_sh a).1 = T at hfit
      have hprim : refKind T = false := by rw [← hT]; exact q_prim hk1 hk2
      have hKa := (q_Ka hK (k := (q_sh a).1) (by omega) (by omega)).1
      rw [hT] at hKa
      generalize hcI : g.2.2.2.1 (q_sh a).1 = cI at hA hD hKa
      obtain ⟨-, k0, hk0, cm0, hkk0⟩ := hKa 0 (fun _ => .null)
      have n1 : ¬ sp < 0 := by rw [Int32.lt_iff_toInt_lt, Int32.toInt_zero]; omega
      have n2 : ¬ dp < 0 := by rw [Int32.lt_iff_toInt_lt, Int32.toInt_zero]; omega
      have n3 : ¬ n < 0 := by rw [Int32.lt_iff_toInt_lt, Int32.toInt_zero]; omega
      intro T0 hT0 X0
      obtain ⟨vm', X', step⟩ := X0.arraycopy hx hown (hts _ p1) (hts _ p2) (hts _ p3) (hts _ p4) (src := g.1 + a) (dst := g.1 + d) (cs := arrV cI (q_sh a).2 (fun j => q_em g (X.2.2 a j))) (cd := arrV cI (q_sh d).2 (fun j => q_em g (X.2.2 d j))) (srcPos := sp) (destPos := dp) (n := n) (by rw [hT0]; exact hA) (by rw [hT0]; exact hD)
        (fun _ h => by cases h) (fun _ h => by cases h) (fun h => by cases h) (fun h => by cases h) hk0 hk0 hkk0 hkk0 (by simp [hprim]) n1 n2 n3
        (by show ¬ _ > ((arrV _ _ _).slots.size : Int); rw [arrV_size]; omega)
        (by show ¬ _ > ((arrV _ _ _).slots.size : Int); rw [arrV_size]; omega)
        (fun vm₁ _ i hi => by
          have e : (arrV cI (q_sh a).2 (fun j => q_em g (X.2.2 a j))).slots.getD (sp.toNatClampNeg + i) .null = X.2.2 a (sp.toInt.toNat + i) := by
            have hi' : i < n.toInt.toNat := hi
            rw [Array.getD_eq_getD_getElem?, arrV_read _ _ (by rw [q_clamp]; omega)]
            show q_em g (X.2.2 a (sp.toInt.toNat + i)) = _
            exact q_fits_em hk1 hk2 (by rw [hT]; exact hfit i hi')
          refine ⟨?_, ?_⟩
          · rw [e]
            exact hfit i hi
          · rw [e]
            have h8 := hfit i hi
            generalize X.2.2 a (sp.toInt.toNat + i) = w at h8
            cases w <;> first | exact trivial | (exfalso; revert h8 hprim; cases T <;> simp [fits, refKind]))
        (g := F0 m pc ls (.int n :: .int dp :: .ref (g.1 + d) :: .int sp :: .ref (g.1 + a) :: r.map (q_em g))) rfl h3.1 (rest := r.map (q_em g)) rfl (by rw [hb]; exact hdg) hroom.1 (by
          have h9 := q_em_wt ho r
          show 2 * 0 + ((r.map (q_em g)).map fun v => v.category).sum + _ ≤ _
          rw [h9]
          omega)
      have e1 : copied (arrV cI (q_sh a).2 (fun j => q_em g (X.2.2 a j))) (arrV cI (q_sh d).2 (fun j => q_em g (X.2.2 d j))) sp dp n = arrV cI (q_sh d).2 (va_cpy (fun j => q_em g (X.2.2 a j)) (fun j => q_em g (X.2.2 d j)) sp.toNatClampNeg dp.toNatClampNeg n.toNatClampNeg) := va_copied (fun z => z) cI cI (fun j => q_em g (X.2.2 a j)) (fun j => q_em g (X.2.2 d j)) (by simp only [q_clamp]; omega)
      rw [e1] at X' step
      generalize hH1 : ((T0.setVm vm').setCell (g.1 + d) (arrV cI (q_sh d).2 (va_cpy (fun j => q_em g (X.2.2 a j)) (fun j => q_em g (X.2.2 d j)) sp.toNatClampNeg dp.toNatClampNeg n.toNatClampNeg))).heap = H1
      have h11 : H.size = g.1 + X.1 := h1.1
      have hlt : g.1 + d < H.size := by omega
      have hH1' : H1 = H.setIfInBounds (g.1 + d) (arrV cI (q_sh d).2 (va_cpy (fun j => q_em g (X.2.2 a j)) (fun j => q_em g (X.2.2 d j)) sp.toNatClampNeg dp.toNatClampNeg n.toNatClampNeg)) := by rw [← hH1, ← hT0]; rfl
      have oq : ∀ q : Nat, q ≠ g.1 + d → H1[q]? = H[q]? := fun q hq => by rw [hH1']; simp [Array.getElem?_setIfInBounds, Ne.symm hq]
      have zz : H1.size = H.size := by rw [hH1']; simp
      have hR : q_Rep g L S (X.1, X.2.1, fun b j => if b = d ∧ dp.toInt.toNat ≤ j ∧ j < dp.toInt.toNat + n.toInt.toNat then X.2.2 a (sp.toInt.toNat + (j - dp.toInt.toNat)) else X.2.2 b j) H1 := by
        refine q_Rep_put h1 hld rfl rfl (fun b hb => ?_) zz oq ?_
        · funext j
          show (if b = d ∧ _ then _ else X.2.2 b j) = _
          rw [if_neg (fun q => hb q.1)]
        · unfold q_at
          rw [if_neg (by omega), hH1']
          rw [Array.getElem?_setIfInBounds_self_of_lt hlt, ← hk, hcI]
          congr 2
          funext j
          show (if dp.toInt.toNat ≤ j ∧ j < dp.toInt.toNat + n.toInt.toNat then q_em g (X.2.2 a (sp.toInt.toNat + (j - dp.toInt.toNat))) else q_em g (X.2.2 d j)) = q_em g (if d = d ∧ dp.toInt.toNat ≤ j ∧ j < dp.toInt.toNat + n.toInt.toNat then X.2.2 a (sp.toInt.toNat + (j - dp.toInt.toNat)) else X.2.2 d j)
          by_cases hj : dp.toInt.toNat ≤ j ∧ j < dp.toInt.toNat + n.toInt.toNat
          · rw [if_pos hj, if_pos ⟨rfl, hj⟩]
          · rw [if_neg hj, if_neg (fun q => hj q.2)]
      obtain ⟨t, a1, b1⟩ := k H1 _ ls hR ⟨by rw [zz]; exact h2.1, fun q q1 q2 => by
          rw [oq q (fun z => q2 (by rw [z]; exact Nat.le_add_right _ _))]
          exact h2.2.1 q q1 q2, fun q hq => by
          rcases List.mem_append.mp hq with h | h
          · exact h2.2.2 q h
          · obtain ⟨z, -, hz⟩ := List.mem_map.mp h
            rw [← hz]
            exact Nat.le_add_right _ _⟩ h3 _ hH1 X'
      exact ⟨t, step t a1, b1⟩
    · cases hs
  · cases hs
end QZ
