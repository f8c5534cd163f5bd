/-! what the law's loop keeps -/
def uid (th : Int) : Nat := if th < 0 then 78 else 4 * th.toNat + 129
abbrev q_Rc : Type := List (Int × Int × List Int)
def rcO (rcs : Nat → q_Rc) (th : Int) : q_Rc := if th < 0 then [] else rcs th.toNat
def cU (N : Nat) (B : q_Bv) (G : q_Gi) (uc a : Nat) (rcs : Nat → q_Rc) : Prop := uv B G N uc a ∧ upl B N 78 9 0 [] ∧ ∀ j, j < uc → upl B N (4 * j + 129) (lsR 2 (rcs j) 9) (lsR 3 (rcs j) 0) (clR (rcs j))
def CI (N : Nat) (B : q_Bv) (G H P T : q_Gi) (tl : List Int) (n : Nat) (nx : Nat → Int) (uc a : Nat) (th : Int) (rcs : Nat → q_Rc) (s : Int) (I J : q_Gi) (ti : Int) : Prop := (hv1 G H ∧ G 1 8 = (uid th : Int)) ∧ pv G P ∧ tv G T ∧ av G tl ∧ (rdr G n ∧ nxG G n = nx) ∧ cU N B G uc a rcs ∧ (G 0 5 = s ∧ (s = 1 → hv15 G I ∧ G 15 8 = (uid ti : Int) ∧ pi' G J))
def MI (G H P T : q_Gi) (tl : List Int) (n : Nat) (nx : Nat → Int) (uc : Nat) (th : Int) (rcs : Nat → q_Rc) (s : Int) (I J : q_Gi) (ti : Int) : Prop := (mv G H ∧ G 82 9 = th) ∧ mpv G P ∧ mtv G T ∧ mav G tl ∧ mrd G n nx ∧ (G 82 8 = (uc : Int) ∧ (∀ j, j < uc → muB G j (rcs j)) ∧ ltr G ∧ G 82 26 = 99999) ∧ (G 82 46 = s ∧ (s = 1 → miv G ti I J))
def PI (H P T : q_Gi) (uc : Nat) (th s : Int) (I J : q_Gi) (ti : Int) : Prop := okH H ∧ Pok P ∧ Tok T ∧ (-1 ≤ th ∧ th < (uc : Int)) ∧ uc ≤ 6 ∧ (s = 0 ∨ s = 1) ∧ (s = 1 → okH I ∧ Pok J ∧ -1 ≤ ti ∧ ti < (uc : Int))
theorem hv1_c {G G' H : q_Gi} (h : ∀ a, 1 ≤ a ∧ a ≤ 6 → G' a = G a) (h0 : hv1 G H) : hv1 G' H := by
  unfold hv1 at h0 ⊢
  rw [h 1 (by omega), h 2 (by omega), h 3 (by omega), h 4 (by omega), h 5 (by omega), h 6 (by omega)]
  exact h0
theorem hv15_c {G G' H : q_Gi} (h : ∀ a, 15 ≤ a ∧ a ≤ 20 → G' a = G a) (h0 : hv15 G H) : hv15 G' H := by
  unfold hv15 at h0 ⊢
  rw [h 15 (by omega), h 16 (by omega), h 17 (by omega), h 18 (by omega), h 19 (by omega), h 20 (by omega)]
  exact h0
theorem pv_c {G G' P : q_Gi} (h : ∀ a, 23 ≤ a ∧ a ≤ 38 → G' a = G a) (h0 : pv G P) : pv G' P := by
  unfold pv rv0 rv1 rv2 rv3 at h0 ⊢
  rw [h 23 (by omega), h 24 (by omega), h 25 (by omega), h 26 (by omega), h 27 (by omega), h 28 (by omega), h 29 (by omega), h 30 (by omega), h 31 (by omega), h 32 (by omega), h 33 (by omega), h 34 (by omega), h 35 (by omega), h 36 (by omega), h 37 (by omega), h 38 (by omega)]
  exact h0
theorem pi_c {G G' P : q_Gi} (h : ∀ a, 40 ≤ a ∧ a ≤ 55 → G' a = G a) (h0 : pi' G P) : pi' G' P := by
  unfold pi' ri0 ri1 ri2 ri3 at h0 ⊢
  rw [h 40 (by omega), h 41 (by omega), h 42 (by omega), h 43 (by omega), h 44 (by omega), h 45 (by omega), h 46 (by omega), h 47 (by omega), h 48 (by omega), h 49 (by omega), h 50 (by omega), h 51 (by omega), h 52 (by omega), h 53 (by omega), h 54 (by omega), h 55 (by omega)]
  exact h0
theorem tv_c {G G' T : q_Gi} (h : ∀ a, 66 ≤ a ∧ a ≤ 77 → G' a = G a) (h0 : tv G T) : tv G' T := by
  unfold tv tv0 tv1 tv2 tv3 tv4 tv5 at h0 ⊢
  rw [h 66 (by omega), h 67 (by omega), h 68 (by omega), h 69 (by omega), h 70 (by omega), h 71 (by omega), h 72 (by omega), h 73 (by omega), h 74 (by omega), h 75 (by omega), h 76 (by omega), h 77 (by omega)]
  exact h0
theorem av_c {G G' : q_Gi} {T : List Int} (h2 : G' 62 = G 62) (h3 : G' 63 = G 63) (h0 : av G T) : av G' T := by
  unfold av at h0 ⊢
  rw [h2, h3]
  exact h0
theorem cR_c {G G' : q_Gi} {n : Nat} {nx : Nat → Int} (h2 : G' 56 = G 56) (h3 : G' 57 = G 57) (h0 : rdr G n ∧ nxG G n = nx) : rdr G' n ∧ nxG G' n = nx := by
  unfold rdr nxG at h0 ⊢
  rw [h2, h3]
  exact h0
theorem cU_c {N uc a : Nat} {B : q_Bv} {G G' : q_Gi} {rcs : Nat → q_Rc} (h2 : G' 0 8 = G 0 8) (h3 : G' 58 = G 58) (h0 : cU N B G uc a rcs) : cU N B G' uc a rcs := by
  unfold cU uv at h0 ⊢
  rw [h2, h3]
  exact h0
theorem cI_c {G G' I J : q_Gi} {s ti : Int} (h2 : G' 0 5 = G 0 5) (h3 : ∀ a, 15 ≤ a ∧ a ≤ 20 → G' a = G a) (h4 : ∀ a, 40 ≤ a ∧ a ≤ 55 → G' a = G a) (h0 : G 0 5 = s ∧ (s = 1 → hv15 G I ∧ G 15 8 = (uid ti : Int) ∧ pi' G J)) : G' 0 5 = s ∧ (s = 1 → hv15 G' I ∧ G' 15 8 = (uid ti : Int) ∧ pi' G' J) := by
  refine ⟨by rw [h2]; exact h0.1, fun e => ?_⟩
  obtain ⟨q1, q2, q3⟩ := h0.2 e
  exact ⟨hv15_c h3 q1, by rw [h3 15 (by omega)]; exact q2, pi_c h4 q3⟩
theorem mv_c {G G' H : q_Gi} (h : ∀ a, 83 ≤ a ∧ a ≤ 87 → G' a = G a) (h1 : ∀ k, k ≤ 2 → G' 82 k = G 82 k) (h0 : mv G H) : mv G' H := by
  unfold mv at h0 ⊢
  rw [h 83 (by omega), h 84 (by omega), h 85 (by omega), h 86 (by omega), h 87 (by omega), h1 0 (by omega), h1 1 (by omega), h1 2 (by omega)]
  exact h0
theorem mpv_c {G G' P : q_Gi} (h : ∀ a, 103 ≤ a ∧ a ≤ 110 → G' a = G a) (h1 : ∀ k, 34 ≤ k ∧ k ≤ 41 → G' 82 k = G 82 k) (h0 : mpv G P) : mpv G' P := by
  unfold mpv at h0 ⊢
  rw [h 103 (by omega), h 104 (by omega), h 105 (by omega), h 106 (by omega), h 107 (by omega), h 108 (by omega), h 109 (by omega), h 110 (by omega), h1 34 (by omega), h1 36 (by omega), h1 40 (by omega), h1 41 (by omega)]
  exact h0
theorem mtv_c {G G' T : q_Gi} (h : ∀ a, 125 ≤ a ∧ a ≤ 127 → G' a = G a) (h0 : mtv G T) : mtv G' T := by
  unfold mtv at h0 ⊢
  rw [h 125 (by omega), h 126 (by omega), h 127 (by omega)]
  exact h0
theorem mav_c {G G' : q_Gi} {T : List Int} (h2 : G' 124 = G 124) (h3 : G' 82 68 = G 82 68) (h0 : mav G T) : mav G' T := by
  unfold mav at h0 ⊢
  rw [h2, h3]
  exact h0
theorem mrd_c {G G' : q_Gi} {n : Nat} {nx : Nat → Int} (h2 : G' 88 = G 88) (h3 : G' 82 10 = G 82 10) (h0 : mrd G n nx) : mrd G' n nx := by
  unfold mrd at h0 ⊢
  rw [h2, h3]
  exact h0
theorem muB_c {G G' : q_Gi} {j : Nat} {rc : q_Rc} (h : ∀ a, 89 ≤ a ∧ a ≤ 94 → G' a = G a) (h0 : muB G j rc) : muB G' j rc := by
  unfold muB rcs rcB at h0 ⊢
  rw [h 89 (by omega), h 90 (by omega), h 91 (by omega), h 92 (by omega), h 93 (by omega), h 94 (by omega)]
  exact h0
theorem mU_c {G G' : q_Gi} {uc : Nat} {rcs : Nat → q_Rc} (h : ∀ a, 89 ≤ a ∧ a ≤ 96 → G' a = G a) (h1 : G' 82 8 = G 82 8) (h2 : G' 82 26 = 99999) (h0 : G 82 8 = (uc : Int) ∧ (∀ j, j < uc → muB G j (rcs j)) ∧ ltr G ∧ G 82 26 = 99999) : G' 82 8 = (uc : Int) ∧ (∀ j, j < uc → muB G' j (rcs j)) ∧ ltr G' ∧ G' 82 26 = 99999 := by
  refine ⟨by rw [h1]; exact h0.1, fun j hj => muB_c (fun a x => h a (by omega)) (h0.2.1 j hj), ?_, h2⟩
  have := h0.2.2.1
  unfold ltr at this ⊢
  rw [h 96 (by omega)]
  exact this
theorem mI_c {G G' I J : q_Gi} {s ti : Int} (h : ∀ a, 111 ≤ a ∧ a ≤ 123 → G' a = G a) (h1 : ∀ k, 46 ≤ k ∧ k ≤ 54 → G' 82 k = G 82 k) (h0 : G 82 46 = s ∧ (s = 1 → miv G ti I J)) : G' 82 46 = s ∧ (s = 1 → miv G' ti I J) := by
  refine ⟨by rw [h1 46 (by omega)]; exact h0.1, fun e => ?_⟩
  have := h0.2 e
  unfold miv at this ⊢
  rw [h 111 (by omega), h 112 (by omega), h 113 (by omega), h 114 (by omega), h 115 (by omega), h 116 (by omega), h 117 (by omega), h 118 (by omega), h 119 (by omega), h 120 (by omega), h 121 (by omega), h 122 (by omega), h 123 (by omega), h1 47 (by omega), h1 48 (by omega), h1 49 (by omega), h1 50 (by omega), h1 51 (by omega), h1 52 (by omega), h1 53 (by omega), h1 54 (by omega)]
  exact this
section INV
variable {N : Nat} {B : q_Bv} {G G' H P T I J : q_Gi} {tl : List Int} {n uc a : Nat} {nx : Nat → Int} {th s ti : Int} {rcs : Nat → q_Rc}
theorem CI_c (f : ∀ c, c < 82 → G' c = G c) (h : CI N B G H P T tl n nx uc a th rcs s I J ti) : CI N B G' H P T tl n nx uc a th rcs s I J ti := by
  obtain ⟨⟨h1, h1'⟩, h2, h3, h4, h5, h6, h7⟩ := h
  exact ⟨⟨hv1_c (fun c x => f c (by omega)) h1, by rw [f 1 (by omega)]; exact h1'⟩, pv_c (fun c x => f c (by omega)) h2, tv_c (fun c x => f c (by omega)) h3, av_c (f 62 (by omega)) (f 63 (by omega)) h4, cR_c (f 56 (by omega)) (f 57 (by omega)) h5, cU_c (by rw [f 0 (by omega)]) (f 58 (by omega)) h6, cI_c (by rw [f 0 (by omega)]) (fun c x => f c (by omega)) (fun c x => f c (by omega)) h7⟩
theorem CI_q (f : qf G G') (h : CI N B G H P T tl n nx uc a th rcs s I J ti) : CI N B G' H P T tl n nx uc a th rcs s I J ti := by
  obtain ⟨⟨h1, h1'⟩, h2, h3, h4, h5, h6, h7⟩ := h
  exact ⟨⟨hv1_c (fun c x => f c (by omega)) h1, by rw [f 1 (by omega)]; exact h1'⟩, pv_c (fun c x => f c (by omega)) h2, tv_c (fun c x => f c (by omega)) h3, av_c (f 62 (by omega)) (f 63 (by omega)) h4, cR_c (f 56 (by omega)) (f 57 (by omega)) h5, cU_c (by rw [f 0 (by omega)]) (f 58 (by omega)) h6, cI_c (by rw [f 0 (by omega)]) (fun c x => f c (by omega)) (fun c x => f c (by omega)) h7⟩
theorem CI_h {H' : q_Gi} (f0 : fr1 G G') (hv : hv1 G' H') (h : CI N B G H P T tl n nx uc a th rcs s I J ti) : CI N B G' H' P T tl n nx uc a th rcs s I J ti := by
  obtain ⟨⟨h1, h1'⟩, h2, h3, h4, h5, h6, h7⟩ := h
  exact ⟨⟨hv, by rw [f0.2]; exact h1'⟩, pv_c (fun c x => f0.1 c (by omega)) h2, tv_c (fun c x => f0.1 c (by omega)) h3, av_c (f0.1 62 (by omega)) (f0.1 63 (by omega)) h4, cR_c (f0.1 56 (by omega)) (f0.1 57 (by omega)) h5, cU_c (by rw [f0.1 0 (by omega)]) (f0.1 58 (by omega)) h6, cI_c (by rw [f0.1 0 (by omega)]) (fun c x => f0.1 c (by omega)) (fun c x => f0.1 c (by omega)) h7⟩
theorem CI_p {P' : q_Gi} (f : ∀ c, (c < 23 ∨ 38 < c) → G' c = G c) (hv : pv G' P') (h : CI N B G H P T tl n nx uc a th rcs s I J ti) : CI N B G' H P' T tl n nx uc a th rcs s I J ti := by
  obtain ⟨⟨h1, h1'⟩, h2, h3, h4, h5, h6, h7⟩ := h
  exact ⟨⟨hv1_c (fun c x => f c (by omega)) h1, by rw [f 1 (by omega)]; exact h1'⟩, hv, tv_c (fun c x => f c (by omega)) h3, av_c (f 62 (by omega)) (f 63 (by omega)) h4, cR_c (f 56 (by omega)) (f 57 (by omega)) h5, cU_c (by rw [f 0 (by omega)]) (f 58 (by omega)) h6, cI_c (by rw [f 0 (by omega)]) (fun c x => f c (by omega)) (fun c x => f c (by omega)) h7⟩
theorem CI_t {T' : q_Gi} (f : ∀ c, (c < 66 ∨ 77 < c) → G' c = G c) (hv : tv G' T') (h : CI N B G H P T tl n nx uc a th rcs s I J ti) : CI N B G' H P T' tl n nx uc a th rcs s I J ti := by
  obtain ⟨⟨h1, h1'⟩, h2, h3, h4, h5, h6, h7⟩ := h
  exact ⟨⟨hv1_c (fun c x => f c (by omega)) h1, by rw [f 1 (by omega)]; exact h1'⟩, pv_c (fun c x => f c (by omega)) h2, hv, av_c (f 62 (by omega)) (f 63 (by omega)) h4, cR_c (f 56 (by omega)) (f 57 (by omega)) h5, cU_c (by rw [f 0 (by omega)]) (f 58 (by omega)) h6, cI_c (by rw [f 0 (by omega)]) (fun c x => f c (by omega)) (fun c x => f c (by omega)) h7⟩
theorem CI_a {tl' : List Int} (f : ∀ c, c ≠ 62 → c ≠ 63 → G' c = G c) (hv : av G' tl') (h : CI N B G H P T tl n nx uc a th rcs s I J ti) : CI N B G' H P T tl' n nx uc a th rcs s I J ti := by
  obtain ⟨⟨h1, h1'⟩, h2, h3, h4, h5, h6, h7⟩ := h
  exact ⟨⟨hv1_c (fun c x => f c (by omega) (by omega)) h1, by rw [f 1 (by omega) (by omega)]; exact h1'⟩, pv_c (fun c x => f c (by omega) (by omega)) h2, tv_c (fun c x => f c (by omega) (by omega)) h3, hv, cR_c (f 56 (by omega) (by omega)) (f 57 (by omega) (by omega)) h5, cU_c (by rw [f 0 (by omega) (by omega)]) (f 58 (by omega) (by omega)) h6, cI_c (by rw [f 0 (by omega) (by omega)]) (fun c x => f c (by omega) (by omega)) (fun c x => f c (by omega) (by omega)) h7⟩
theorem MI_0 (f : ∀ c, 82 < c → G' c = G c) (g : ∀ k, 0 ≤ k → G' 82 k = G 82 k) (h : MI G H P T tl n nx uc th rcs s I J ti) : MI G' H P T tl n nx uc th rcs s I J ti := by
  obtain ⟨⟨h1, h1'⟩, h2, h3, h4, h5, h6, h7⟩ := h
  exact ⟨⟨mv_c (fun c x => f c (by omega)) (fun k x => g k (by omega)) h1, by rw [g 9 (by omega)]; exact h1'⟩, mpv_c (fun c x => f c (by omega)) (fun k x => g k (by omega)) h2, mtv_c (fun c x => f c (by omega)) h3, mav_c (f 124 (by omega)) (g 68 (by omega)) h4, mrd_c (f 88 (by omega)) (g 10 (by omega)) h5, mU_c (fun c x => f c (by omega)) (g 8 (by omega)) (Eq.trans (g 26 (by omega)) h6.2.2.2) h6, mI_c (fun c x => f c (by omega)) (fun k x => g k (by omega)) h7⟩
theorem MI_q0 (f : ∀ c, ¬ c = 82 ∧ ¬ c = 85 ∧ ¬ c = 87 ∧ ¬ c = 84 ∧ (c < 97 ∨ 102 < c) → G' c = G c) (g : ∀ k, ¬ k = 1 ∧ ¬ k = 2 ∧ ¬ k = 26 ∧ ¬ k = 27 ∧ ¬ k = 28 → G' 82 k = G 82 k) (hv : mv G' H) (hM : G' 82 26 = 99999) (h : MI G H P T tl n nx uc th rcs s I J ti) : MI G' H P T tl n nx uc th rcs s I J ti := by
  obtain ⟨⟨h1, h1'⟩, h2, h3, h4, h5, h6, h7⟩ := h
  exact ⟨⟨hv, by rw [g 9 (by omega)]; exact h1'⟩, mpv_c (fun c x => f c (by omega)) (fun k x => g k (by omega)) h2, mtv_c (fun c x => f c (by omega)) h3, mav_c (f 124 (by omega)) (g 68 (by omega)) h4, mrd_c (f 88 (by omega)) (g 10 (by omega)) h5, mU_c (fun c x => f c (by omega)) (g 8 (by omega)) hM h6, mI_c (fun c x => f c (by omega)) (fun k x => g k (by omega)) h7⟩
theorem MI_q (f : mq G G') (hv : mv G' H) (hM : G' 82 26 = 99999) (h : MI G H P T tl n nx uc th rcs s I J ti) : MI G' H P T tl n nx uc th rcs s I J ti := MI_q0 (fun c x => f.1 c x.1 x.2.1 x.2.2.1 x.2.2.2.2) (fun k x => f.2 k x.1 x.2.1 x.2.2.1 x.2.2.2.1 x.2.2.2.2) hv hM h
theorem MI_qv (f : mqv G G') (hv : mv G' H) (hM : G' 82 26 = 99999) (h : MI G H P T tl n nx uc th rcs s I J ti) : MI G' H P T tl n nx uc th rcs s I J ti := MI_q0 (fun c x => f.1 c x.1 x.2.2.2.1 x.2.1 x.2.2.1 x.2.2.2.2) (fun k x => f.2 k x.1 x.2.1 x.2.2.1 x.2.2.2.1 x.2.2.2.2) hv hM h
theorem MI_c (f : ∀ c, 82 ≤ c → G' c = G c) (h : MI G H P T tl n nx uc th rcs s I J ti) : MI G' H P T tl n nx uc th rcs s I J ti := MI_0 (fun c x => f c (by omega)) (fun k _ => by rw [f 82 (by omega)]) h
theorem MI_97 (f : ∀ c, c ≠ 97 → G' c = G c) (h : MI G H P T tl n nx uc th rcs s I J ti) : MI G' H P T tl n nx uc th rcs s I J ti := by
  obtain ⟨⟨h1, h1'⟩, h2, h3, h4, h5, h6, h7⟩ := h
  exact ⟨⟨mv_c (fun c x => f c (by omega)) (fun k x => (by rw [f 82 (by omega)] : G' 82 k = G 82 k)) h1, by rw [(by rw [f 82 (by omega)] : G' 82 9 = G 82 9)]; exact h1'⟩, mpv_c (fun c x => f c (by omega)) (fun k x => (by rw [f 82 (by omega)] : G' 82 k = G 82 k)) h2, mtv_c (fun c x => f c (by omega)) h3, mav_c (f 124 (by omega)) ((by rw [f 82 (by omega)] : G' 82 68 = G 82 68)) h4, mrd_c (f 88 (by omega)) ((by rw [f 82 (by omega)] : G' 82 10 = G 82 10)) h5, mU_c (fun c x => f c (by omega)) ((by rw [f 82 (by omega)] : G' 82 8 = G 82 8)) (Eq.trans ((by rw [f 82 (by omega)] : G' 82 26 = G 82 26)) h6.2.2.2) h6, mI_c (fun c x => f c (by omega)) (fun k x => (by rw [f 82 (by omega)] : G' 82 k = G 82 k)) h7⟩
theorem MI_w {H' : q_Gi} (f0 : mw G G') (hv : mv G' H') (h : MI G H P T tl n nx uc th rcs s I J ti) : MI G' H' P T tl n nx uc th rcs s I J ti := by
  obtain ⟨⟨h1, h1'⟩, h2, h3, h4, h5, h6, h7⟩ := h
  exact ⟨⟨hv, by rw [f0.2 9 (by omega)]; exact h1'⟩, mpv_c (fun c x => f0.1 c (by omega) (by omega)) (fun k x => f0.2 k (by omega)) h2, mtv_c (fun c x => f0.1 c (by omega) (by omega)) h3, mav_c (f0.1 124 (by omega) (by omega)) (f0.2 68 (by omega)) h4, mrd_c (f0.1 88 (by omega) (by omega)) (f0.2 10 (by omega)) h5, mU_c (fun c x => f0.1 c (by omega) (by omega)) (f0.2 8 (by omega)) (Eq.trans (f0.2 26 (by omega)) h6.2.2.2) h6, mI_c (fun c x => f0.1 c (by omega) (by omega)) (fun k x => f0.2 k (by omega)) h7⟩
theorem MI_p {P' : q_Gi} (f0 : mh G G') (hv : mpv G' P') (h : MI G H P T tl n nx uc th rcs s I J ti) : MI G' H P' T tl n nx uc th rcs s I J ti := by
  obtain ⟨⟨h1, h1'⟩, h2, h3, h4, h5, h6, h7⟩ := h
  exact ⟨⟨mv_c (fun c x => f0.1 c (by omega) (by omega)) (fun k x => f0.2 k (by omega)) h1, by rw [f0.2 9 (by omega)]; exact h1'⟩, hv, mtv_c (fun c x => f0.1 c (by omega) (by omega)) h3, mav_c (f0.1 124 (by omega) (by omega)) (f0.2 68 (by omega)) h4, mrd_c (f0.1 88 (by omega) (by omega)) (f0.2 10 (by omega)) h5, mU_c (fun c x => f0.1 c (by omega) (by omega)) (f0.2 8 (by omega)) (Eq.trans (f0.2 26 (by omega)) h6.2.2.2) h6, mI_c (fun c x => f0.1 c (by omega) (by omega)) (fun k x => f0.2 k (by omega)) h7⟩
theorem MI_t {T' : q_Gi} (f0 : mtf G G') (hv : mtv G' T') (h : MI G H P T tl n nx uc th rcs s I J ti) : MI G' H P T' tl n nx uc th rcs s I J ti := by
  obtain ⟨⟨h1, h1'⟩, h2, h3, h4, h5, h6, h7⟩ := h
  exact ⟨⟨mv_c (fun c x => f0 c (by omega)) (fun k x => (by rw [f0 82 (by omega)] : G' 82 k = G 82 k)) h1, by rw [(by rw [f0 82 (by omega)] : G' 82 9 = G 82 9)]; exact h1'⟩, mpv_c (fun c x => f0 c (by omega)) (fun k x => (by rw [f0 82 (by omega)] : G' 82 k = G 82 k)) h2, hv, mav_c (f0 124 (by omega)) ((by rw [f0 82 (by omega)] : G' 82 68 = G 82 68)) h4, mrd_c (f0 88 (by omega)) ((by rw [f0 82 (by omega)] : G' 82 10 = G 82 10)) h5, mU_c (fun c x => f0 c (by omega)) ((by rw [f0 82 (by omega)] : G' 82 8 = G 82 8)) (Eq.trans ((by rw [f0 82 (by omega)] : G' 82 26 = G 82 26)) h6.2.2.2) h6, mI_c (fun c x => f0 c (by omega)) (fun k x => (by rw [f0 82 (by omega)] : G' 82 k = G 82 k)) h7⟩
theorem MI_a {tl' : List Int} (f0 : ma G G') (hv : mav G' tl') (h : MI G H P T tl n nx uc th rcs s I J ti) : MI G' H P T tl' n nx uc th rcs s I J ti := by
  obtain ⟨⟨h1, h1'⟩, h2, h3, h4, h5, h6, h7⟩ := h
  exact ⟨⟨mv_c (fun c x => f0.1 c (by omega) (by omega)) (fun k x => f0.2 k (by omega)) h1, by rw [f0.2 9 (by omega)]; exact h1'⟩, mpv_c (fun c x => f0.1 c (by omega) (by omega)) (fun k x => f0.2 k (by omega)) h2, mtv_c (fun c x => f0.1 c (by omega) (by omega)) h3, hv, mrd_c (f0.1 88 (by omega) (by omega)) (f0.2 10 (by omega)) h5, mU_c (fun c x => f0.1 c (by omega) (by omega)) (f0.2 8 (by omega)) (Eq.trans (f0.2 26 (by omega)) h6.2.2.2) h6, mI_c (fun c x => f0.1 c (by omega) (by omega)) (fun k x => f0.2 k (by omega)) h7⟩
theorem MI_ms (h : MI G H P T tl n nx uc th rcs s I J ti) (hp' : PI H P T uc th s I J ti) : ms G H th (rcO rcs th) := by
  obtain ⟨⟨h1, h1'⟩, h2, h3, h4, h5, h6, h7⟩ := h
  obtain ⟨p1, p2, p3, p4, p5, p6⟩ := hp'
  refine ⟨h1, p1.1, h1', ?_⟩
  unfold rcO
  by_cases c : th < 0
  · rw [if_pos c]
    exact ⟨0, Nat.zero_le _, Nat.zero_le _, Or.inl ⟨by omega, rfl, rfl⟩, fun i hi => absurd hi (Nat.not_lt_zero _), fun r hr => absurd hr List.not_mem_nil⟩
  · rw [if_neg c]
    have := mu_of (G := G) (f := th.toNat) (rc := rcs th.toNat) (by omega) (h6.2.1 th.toNat (by omega))
    rw [show ((th.toNat : Nat) : Int) = th by omega] at this
    exact this
theorem CI_upl (h : CI N B G H P T tl n nx uc a th rcs s I J ti) (hp' : PI H P T uc th s I J ti) : upl B N (uid th) (lsR 2 (rcO rcs th) 9) (lsR 3 (rcO rcs th) 0) (clR (rcO rcs th)) := by
  obtain ⟨h1, h2, h3, h4, h5, h6, h7⟩ := h
  obtain ⟨p1, p2, p3, p4, p5, p6⟩ := hp'
  unfold rcO uid
  by_cases c : th < 0
  · rw [if_pos c, if_pos c]
    exact h6.2.1
  · rw [if_neg c, if_neg c]
    exact h6.2.2 th.toNat (by omega)
end INV
