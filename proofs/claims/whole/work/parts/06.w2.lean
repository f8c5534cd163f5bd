/-! rows of the abstract machine: fields, arrays, new cells, constants -/
theorem q_ad_lo {g : q_G} {a : Nat} (h : a < 1000) : q_ad g a = g.1 + a := by simp [q_ad, h]
theorem q_ad_hi {g : q_G} {a : Nat} (h : 1000 ≤ a) : q_ad g a = g.2.1 a := by simp [q_ad, Nat.not_lt.mpr h]
theorem q_em_lo {g : q_G} {a : Nat} (h : a < 1000) : q_em g (.ref a) = .ref (g.1 + a) := by rw [q_em_ref (by omega), q_ad_lo h]
theorem q_rd_lo {X : q_H} {a k : Nat} (h : a ≤ 1000) : q_rd X a k = X.2.2 a k := by simp [q_rd, h]
theorem q_rd_hi {X : q_H} {a k : Nat} (h : 1000 < a) : q_rd X a k = q_ro a k := by simp [q_rd, Nat.not_le.mpr h]
theorem q_obj {g : q_G} {L : Nat} {S : Nat → Value} {X : q_H} {H : Heap} {a : Nat} (h : q_Rep g L S X H) (ha : a < X.1) (hk : (q_sh a).1 < 16) : t_OB (g.1 + a) (g.2.2.2.1 (q_sh a).1) (q_sh a).2 (g.2.2.2.2 (q_sh a).1) H (fun j => q_em g (X.2.2 a j)) := by
  have h1 := h.2.2.2 a ha
  unfold q_at at h1
  rw [if_pos hk] at h1
  exact h1
theorem q_arr {g : q_G} {L : Nat} {S : Nat → Value} {X : q_H} {H : Heap} {a : Nat} (h : q_Rep g L S X H) (ha : a < X.1) (hk : 16 ≤ (q_sh a).1) : H[g.1 + a]? = some (arrV (g.2.2.2.1 (q_sh a).1) (q_sh a).2 (fun j => q_em g (X.2.2 a j))) := by
  have h1 := h.2.2.2 a ha
  unfold q_at at h1
  rw [if_neg (by omega)] at h1
  exact h1
theorem q_clk_get {k : Nat} (h : k < 10) : q_cl[k]? = some (q_clk k) := by
  have : ∀ k, k < 10 → q_cl[k]? = some (q_clk k) := by
    intro k hk
    rcases (show k = 0 ∨ k = 1 ∨ k = 2 ∨ k = 3 ∨ k = 4 ∨ k = 5 ∨ k = 6 ∨ k = 7 ∨ k = 8 ∨ k = 9 by omega) with rfl | rfl | rfl | rfl | rfl | rfl | rfl | rfl | rfl | rfl <;> rfl
  exact this k h
theorem q_ty_ok : ∀ k, k < 10 → ∀ j, j < (q_clk k).2.2 → parseFieldDescriptor ((q_clk k).2.1 j).2.2.1 = some (q_ty k j) := by decide +kernel
theorem q_nm_ok : ∀ k, k < 10 → ∀ a, a < (q_clk k).2.2 → ∀ b, b < (q_clk k).2.2 → a ≠ b → ((q_clk k).2.1 a).2.1 ≠ ((q_clk k).2.1 b).2.1 := by decide +kernel
theorem q_Kn {g : q_G} {U : State} (h : q_K g U) {k : Nat} (hk : k < 10) : u_Kn U (q_clk k).1 (q_clk k).2.1 (q_clk k).2.2 (g.2.2.2.1 k) (g.2.2.2.2 k) := h.1 k _ (q_clk_get hk)
theorem q_tys_get {g : q_G} {k : Nat} (h1 : 16 ≤ k) (h2 : k ≤ 21) : (q_tys g)[k - 16]? = some (g.2.2.2.1 k, q_aty k) := by
  rcases (show k = 16 ∨ k = 17 ∨ k = 18 ∨ k = 19 ∨ k = 20 ∨ k = 21 by omega) with rfl | rfl | rfl | rfl | rfl | rfl <;> rfl
theorem q_Ka {g : q_G} {U : State} (h : q_K g U) {k : Nat} (h1 : 16 ≤ k) (h2 : k ≤ 21) : ArrOfT U (g.2.2.2.1 k) (q_aty k) ∧ va_RA U (g.2.2.2.1 k) (q_aty k) := h.2 _ _ (q_tys_get h1 h2)
theorem q_slots_apart {g : q_G} {U : State} {args : Array Value} (h : q_K g U) (hts : ∀ w ∈ lw_good, w.before args U = true) {k : Nat} (hk : k < 10) : ∀ x y, x < (q_clk k).2.2 → y < (q_clk k).2.2 → x ≠ y → g.2.2.2.2 k x ≠ g.2.2.2.2 k y :=
  va_apart (own := "") hts (q_lays_in k hk) (q_ty k) (q_ty_ok k hk) (q_nm_ok k hk) h (q_clk_get hk)
theorem q_ro_str : ∀ j, j < 6 → q_ro (1010 + j) 0 = .ref (1020 + j) ∧ q_ro (1010 + j) 1 = .int 0 := by decide +kernel
section QX
variable {p : Program} {l : Launch} {e : Env} {R : Room} {s : State} {m : MethodId} {args : Array Value} {below : List Frame} {meth : Method} {c : Code} {Q : State → Prop} {g : q_G} {L n0 y : Nat} {S : Nat → Value}
theorem q_w_getf {cfg cfg' : q_C} {i : Nat} (K : q_Cx p s m args meth c g L S n0 y) (hdg : decode (q_mc y) cfg.1 = .ok (.getfield i, 3)) (HP : ∀ e, q_pool (q_mo y) i = some e → q_ok (q_mo y) i e) (hs : q_getf (q_pool (q_mo y)) i cfg = some (.inl cfg')) (k : q_WA p l e R s m args below meth c Q g L S n0 cfg') : q_WA p l e R s m args below meth c Q g L S n0 cfg := by
  obtain ⟨pc, vl, st, X⟩ := cfg
  obtain ⟨hx, hb, hown, hts, hK, hNF, hRO, ho, hz, hnm, hml⟩ := K
  unfold q_getf at hs
  split at hs
  · rename_i ci kf vv a r hp hst
    change Nat at a
    have hst' : st = .ref a :: r := hst
    subst hst'
    split at hs
    · rename_i hcond
      cases hs
      obtain ⟨hlive, hkind, hlt⟩ := hcond
      have hok := HP _ hp
      intro H locs ls h1 h2 h3
      have k1 := k H locs ls h1 h2 h3
      have hX : X.1 ≤ 1000 := h1.2.1
      have hlive : a < X.1 ∨ 1000 ≤ a := hlive
      have hkind : (q_sh a).1 = ci := hkind
      have hlt : kf < (q_sh a).2 := hlt
      by_cases halo : a < X.1
      · have ha : a < 1000 := by omega
        have hsl := q_sh_lo ha
        rcases hok with ⟨c1, c2, c3, c4⟩ | ⟨c1, -⟩ | ⟨c1, -⟩
        · show W p l e R s m args below meth c H locs _ _ Q (F0 m pc ls (q_em g (.ref a) :: _))
          rw [q_em_lo ha]
          obtain ⟨cell, q1, q2, q3, q4⟩ := q_obj h1 halo (by omega)
          obtain ⟨hS, hfc, kC, hkC, hkd⟩ := q_Kn hK c1
          obtain ⟨cf, kf', fi, f, hi, hsl'⟩ := hS kf c2
          refine W.getf hx hb hown (hts _ c3) (by rw [c4]; exact hi) (u_facts hfc hkC (u_lays hts (q_lays_in ci c1) c2) hi).1 q1 (by rw [q3]; exact fun h => by cases h) (v := q_em g (X.2.2 a kf)) ?_ rfl rfl hdg ?_
          · rw [hsl']
            have := q4 kf hlt
            rw [hkind] at this
            exact this
          · have : q_rd X a kf = X.2.2 a kf := q_rd_lo (by omega)
            simp only [List.map_cons, this] at k1
            exact k1
        · exact absurd (hkind.trans c1) hsl.1
        · exact absurd (hkind.trans c1) hsl.1
      · have ha : 1000 ≤ a := hlive.elim (fun h => absurd h halo) id
        have hsh := q_sh_hi ha
        have hc10 : ci = 10 := by
          rcases hok with ⟨c1, -⟩ | ⟨c1, -⟩ | ⟨c1, -⟩
          · rcases hsh with ⟨z, -⟩ | ⟨z, -⟩ | ⟨z, -⟩ | z <;> omega
          · exact c1
          · exact c1
        have hj : ∃ j, j < 6 ∧ a = 1010 + j := by
          rcases hsh with ⟨z, -⟩ | ⟨z, zz⟩ | ⟨z, -⟩ | z
          · omega
          · exact zz
          · omega
          · omega
        obtain ⟨j, hj6, rfl⟩ := hj
        obtain ⟨s1, s2, s3, s4⟩ := hRO.2.2.1 j hj6
        show W p l e R s m args below meth c H locs _ _ Q (F0 m pc ls (q_em g (.ref (1010 + j)) :: _))
        rw [q_em_ref (by omega), q_ad_hi (by omega)]
        have hr0 := q_ro_str j hj6
        rcases hok with ⟨c1, -⟩ | ⟨c1, rfl, c3⟩ | ⟨c1, rfl, c3⟩
        · omega
        · refine vk_getf hx hb s3 h2 hown (hts _ c3) (fun _ h => h) hdg ?_
          have : q_rd X (1010 + j) 0 = .ref (1020 + j) := by rw [q_rd_hi (by omega)]; exact hr0.1
          simp only [List.map_cons, this] at k1
          rw [q_em_ref (by omega), q_ad_hi (by omega)] at k1
          exact k1
        · refine vk_getf hx hb s2 h2 hown (hts _ c3) (fun _ h => h) hdg ?_
          have : q_rd X (1010 + j) 1 = .int 0 := by rw [q_rd_hi (by omega)]; exact hr0.2
          simp only [List.map_cons, this] at k1
          exact k1
    · cases hs
  · cases hs
end QX
