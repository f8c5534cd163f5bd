/-! WORDS by their places in lw_tbl, by program (wip/whole/gen_words.py) -/
def q_wat (p : Nat) (w : Jvm.Cond) : Bool := decide (lw_tbl[p]? = some w) && goodWord w
theorem q_wat_in {p : Nat} {w : Jvm.Cond} (h : q_wat p w = true) : w ∈ lw_good := by
  unfold q_wat at h
  simp only [Bool.and_eq_true, decide_eq_true_eq] at h
  exact List.mem_filter.mpr ⟨List.mem_of_getElem? h.1, h.2⟩
def q_wats (l : List Jvm.Cond) (ps : List Nat) : Bool := match l, ps with
  | [], _ => true
  | w :: l, p :: ps => q_wat p w && q_wats l ps
  | _, _ => false
theorem q_wats_in : ∀ {l : List Jvm.Cond} {ps : List Nat}, q_wats l ps = true → ∀ w ∈ l, w ∈ lw_good := by
  intro l
  induction l with
  | nil => intro ps h w hw; cases hw
  | cons a l ih =>
    intro ps h w hw
    cases ps with
    | nil => cases h
    | cons p ps =>
      unfold q_wats at h
      rw [Bool.and_eq_true] at h
      rcases List.mem_cons.mp hw with rfl | hw
      · exact q_wat_in h.1
      · exact ih h.2 w hw
def q_tblp (p : Nat) (w : Jvm.Cond) : Bool := decide (lw_tbl[p]? = some w)
theorem q_tblp_in {p : Nat} {w : Jvm.Cond} (h : q_tblp p w = true) : w ∈ lw_tbl := List.mem_of_getElem? (of_decide_eq_true h)
set_option maxRecDepth 100000 in
theorem q_lay0 : q_wats (u_ws (q_clk 0).1 (q_clk 0).2.1 (q_clk 0).2.2) [275, 277, 279, 281, 283] = true := by decide +kernel
set_option maxRecDepth 100000 in
theorem q_lay1 : q_wats (u_ws (q_clk 1).1 (q_clk 1).2.1 (q_clk 1).2.2) [133, 135, 137, 139, 141, 143, 145, 147, 149, 151] = true := by decide +kernel
set_option maxRecDepth 100000 in
theorem q_lay2 : q_wats (u_ws (q_clk 2).1 (q_clk 2).2.1 (q_clk 2).2.2) [247, 249, 251, 253, 255, 257, 259] = true := by decide +kernel
set_option maxRecDepth 100000 in
theorem q_lay3 : q_wats (u_ws (q_clk 3).1 (q_clk 3).2.1 (q_clk 3).2.2) [219, 221, 223, 225] = true := by decide +kernel
set_option maxRecDepth 100000 in
theorem q_lay4 : q_wats (u_ws (q_clk 4).1 (q_clk 4).2.1 (q_clk 4).2.2) [179, 181, 183, 185, 187] = true := by decide +kernel
set_option maxRecDepth 100000 in
theorem q_lay5 : q_wats (u_ws (q_clk 5).1 (q_clk 5).2.1 (q_clk 5).2.2) [198, 200, 202, 204] = true := by decide +kernel
set_option maxRecDepth 100000 in
theorem q_lay6 : q_wats (u_ws (q_clk 6).1 (q_clk 6).2.1 (q_clk 6).2.2) [298, 300, 302] = true := by decide +kernel
set_option maxRecDepth 100000 in
theorem q_lay7 : q_wats (u_ws (q_clk 7).1 (q_clk 7).2.1 (q_clk 7).2.2) [324, 326, 328, 330, 332, 334, 336] = true := by decide +kernel
set_option maxRecDepth 100000 in
theorem q_lay8 : q_wats (u_ws (q_clk 8).1 (q_clk 8).2.1 (q_clk 8).2.2) [355, 357, 359, 361, 363, 365, 367, 369, 371, 373, 375, 377, 379] = true := by decide +kernel
set_option maxRecDepth 100000 in
theorem q_lay9 : q_wats (u_ws (q_clk 9).1 (q_clk 9).2.1 (q_clk 9).2.2) [1010, 1012, 1014, 1016, 1018, 1020, 1022, 1024, 1026, 1028, 1030, 1032, 1034, 1036, 1038, 1040, 1042, 1044, 1046, 1048, 1050, 1052, 1054, 1056, 1058, 1060, 1062, 1064, 1066, 1068, 1070, 1072, 1074, 1076, 1078, 1080, 1082, 1084, 1086, 1088, 1090, 1092, 1094, 1096, 1098, 1100, 1102, 1104, 1106, 1108, 1110, 1112, 1114, 1116, 1118, 1120, 1122, 1124, 1126, 1128, 1130, 1132, 1134, 1136, 1138, 1140, 1142, 1144, 1146, 1148, 1150, 1152, 1154, 1156] = true := by decide +kernel
/-- the words of each class's fields -/
theorem q_lays_in (k : Nat) (hk : k < 10) : ∀ w ∈ u_ws (q_clk k).1 (q_clk k).2.1 (q_clk k).2.2, w ∈ lw_good := by
  match k, hk with
  | 0, _ => exact q_wats_in q_lay0
  | 1, _ => exact q_wats_in q_lay1
  | 2, _ => exact q_wats_in q_lay2
  | 3, _ => exact q_wats_in q_lay3
  | 4, _ => exact q_wats_in q_lay4
  | 5, _ => exact q_wats_in q_lay5
  | 6, _ => exact q_wats_in q_lay6
  | 7, _ => exact q_wats_in q_lay7
  | 8, _ => exact q_wats_in q_lay8
  | 9, _ => exact q_wats_in q_lay9
  | k + 10, h => omega
theorem q_arr_w : q_wat 154 (Jvm.Cond.arrayClass .int) = true ∧ q_wat 305 (Jvm.Cond.arrayClass .long) = true ∧ q_wat 228 (Jvm.Cond.arrayClass .byte) = true ∧ q_wat 1159 (Jvm.Cond.arrayClass .boolean) = true := by decide +kernel
theorem q_arr_in (t : ArrayType) (h : q_ak t ≠ 99) : Jvm.Cond.arrayClass (newarray.typeOf t) ∈ lw_good := by
  cases t with
  | int => exact q_wat_in q_arr_w.1
  | long => exact q_wat_in q_arr_w.2.1
  | byte => exact q_wat_in q_arr_w.2.2.1
  | boolean => exact q_wat_in q_arr_w.2.2.2
  | _ => exact absurd rfl h
def q_insp : List Nat := [263, 107, 232, 208, 162, 156, 288, 306, 99, 930]
theorem q_inst_w : ∀ k, k < 10 → q_wat (q_insp.getD k 0) (Jvm.Cond.instantiable (q_clk k).1 (q_clk k).2.2) = true := by decide +kernel
theorem q_inst_in (k : Nat) (hk : k < 10) : Jvm.Cond.instantiable (q_clk k).1 (q_clk k).2.2 ∈ lw_good := q_wat_in (q_inst_w k hk)
theorem q_stat_w : (q_stat.zip [(433, 79), (880, 79), (878, 86), (523, 93), (507, 91)]).all (fun z => q_tblp z.2.1 (Jvm.Cond.laysStatic z.1.1 z.1.2.1 z.1.2.2.1) && q_tblp z.2.2 (Jvm.Cond.initialized z.1.1)) = true := by decide +kernel
theorem q_stat_in (q : String × String × String × Value) (hq : q ∈ q_stat) : Jvm.Cond.laysStatic q.1 q.2.1 q.2.2.1 ∈ lw_tbl ∧ Jvm.Cond.initialized q.1 ∈ lw_tbl := by
  have h := q_stat_w
  simp only [q_stat, List.zip_cons_cons, List.zip_nil_right, List.all_cons, List.all_nil, Bool.and_eq_true, Bool.and_true] at h
  simp only [q_stat, List.mem_cons, List.not_mem_nil, or_false] at hq
  obtain ⟨h1, h2, h3, h4, h5⟩ := h
  rcases hq with rfl | rfl | rfl | rfl | rfl
  · exact ⟨q_tblp_in h1.1, q_tblp_in h1.2⟩
  · exact ⟨q_tblp_in h2.1, q_tblp_in h2.2⟩
  · exact ⟨q_tblp_in h3.1, q_tblp_in h3.2⟩
  · exact ⟨q_tblp_in h4.1, q_tblp_in h4.2⟩
  · exact ⟨q_tblp_in h5.1, q_tblp_in h5.2⟩
def q_tbls (l : List Jvm.Cond) (ps : List Nat) : Bool := match l, ps with
  | [], _ => true
  | w :: l, p :: ps => q_tblp p w && (w.onTables && q_tbls l ps)
  | _, _ => false
theorem q_tbls_in : ∀ {l : List Jvm.Cond} {ps : List Nat}, q_tbls l ps = true → ∀ w ∈ l, w ∈ lw_tbl ∧ w.onTables = true := by
  intro l
  induction l with
  | nil => intro ps h w hw; cases hw
  | cons a l ih =>
    intro ps h w hw
    cases ps with
    | nil => cases h
    | cons p ps =>
      unfold q_tbls at h
      simp only [Bool.and_eq_true] at h
      rcases List.mem_cons.mp hw with rfl | hw
      · exact ⟨q_tblp_in h.1, h.2.1⟩
      · exact ih h.2.2 w hw
theorem q_nest_in : ∀ w ∈ q_nest, w ∈ lw_tbl ∧ w.onTables = true := q_tbls_in (ps := [108, 157, 209, 233, 264, 289, 432, 879]) (by decide +kernel)
theorem q_over_in : Jvm.Cond.arrayOver (.object "BellsThatEat$Upland") ∈ lw_tbl ∧ Jvm.Cond.arrayOver (.object "BellsThatEat$Tape") ∈ lw_tbl := ⟨q_tblp_in (p := 230) (by decide +kernel), q_tblp_in (p := 287) (by decide +kernel)⟩
def q_strp : List Nat := [493, 551, 552, 553, 570, 630]
theorem q_strs_w : ∀ j, j < 6 → q_tblp (q_strp.getD j 0) (Jvm.Cond.stringRef (q_strs.getD j ("", 0, "")).1 (q_strs.getD j ("", 0, "")).2.1 (q_strs.getD j ("", 0, "")).2.2) = true := by decide +kernel
theorem q_strs_in (j : Nat) (hj : j < 6) : Jvm.Cond.stringRef (q_strs.getD j ("", 0, "")).1 (q_strs.getD j ("", 0, "")).2.1 (q_strs.getD j ("", 0, "")).2.2 ∈ lw_tbl := q_tblp_in (q_strs_w j hj)
