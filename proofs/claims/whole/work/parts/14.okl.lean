/-! VALIDITY of the law's table, by program, in pieces; then of every method -/
theorem q_dt_app {y : Nat} {a b : List (Nat × Instr × Nat)} (h1 : q_dt y a = true) (h2 : q_dt y b = true) : q_dt y (a ++ b) = true := by
  unfold q_dt at *
  rw [List.all_append, h1, h2]
  rfl
set_option maxRecDepth 100000 in
theorem q_dt222_0 : q_dt 222 q_t222_0 = true := by decide +kernel
set_option maxRecDepth 100000 in
theorem q_dt222_1 : q_dt 222 q_t222_1 = true := by decide +kernel
set_option maxRecDepth 100000 in
theorem q_dt222_2 : q_dt 222 q_t222_2 = true := by decide +kernel
set_option maxRecDepth 100000 in
theorem q_dt222_3 : q_dt 222 q_t222_3 = true := by decide +kernel
set_option maxRecDepth 100000 in
theorem q_dt222_4 : q_dt 222 q_t222_4 = true := by decide +kernel
set_option maxRecDepth 100000 in
theorem q_dt222_5 : q_dt 222 q_t222_5 = true := by decide +kernel
set_option maxRecDepth 100000 in
theorem q_dt222_6 : q_dt 222 q_t222_6 = true := by decide +kernel
set_option maxRecDepth 100000 in
theorem q_dt222_7 : q_dt 222 q_t222_7 = true := by decide +kernel
set_option maxRecDepth 100000 in
theorem q_dt222_8 : q_dt 222 q_t222_8 = true := by decide +kernel
set_option maxRecDepth 100000 in
theorem q_dt222_9 : q_dt 222 q_t222_9 = true := by decide +kernel
set_option maxRecDepth 100000 in
theorem q_dt222_10 : q_dt 222 q_t222_10 = true := by decide +kernel
set_option maxRecDepth 100000 in
theorem q_dt222_11 : q_dt 222 q_t222_11 = true := by decide +kernel
set_option maxRecDepth 100000 in
theorem q_dt222_12 : q_dt 222 q_t222_12 = true := by decide +kernel
set_option maxRecDepth 100000 in
theorem q_dt222_13 : q_dt 222 q_t222_13 = true := by decide +kernel
set_option maxRecDepth 100000 in
theorem q_dt222_14 : q_dt 222 q_t222_14 = true := by decide +kernel
set_option maxRecDepth 100000 in
theorem q_dt222_15 : q_dt 222 q_t222_15 = true := by decide +kernel
set_option maxRecDepth 100000 in
theorem q_dt222_16 : q_dt 222 q_t222_16 = true := by decide +kernel
set_option maxRecDepth 100000 in
theorem q_dt222_17 : q_dt 222 q_t222_17 = true := by decide +kernel
set_option maxRecDepth 100000 in
theorem q_dt222_18 : q_dt 222 q_t222_18 = true := by decide +kernel
set_option maxRecDepth 100000 in
theorem q_dt222_19 : q_dt 222 q_t222_19 = true := by decide +kernel
set_option maxRecDepth 100000 in
theorem q_dt222_20 : q_dt 222 q_t222_20 = true := by decide +kernel
set_option maxRecDepth 100000 in
theorem q_dt222_21 : q_dt 222 q_t222_21 = true := by decide +kernel
set_option maxRecDepth 100000 in
theorem q_dt222_22 : q_dt 222 q_t222_22 = true := by decide +kernel
set_option maxRecDepth 100000 in
theorem q_dt222_23 : q_dt 222 q_t222_23 = true := by decide +kernel
set_option maxRecDepth 100000 in
theorem q_dt222_24 : q_dt 222 q_t222_24 = true := by decide +kernel
theorem q_dt222 : q_dt 222 q_t222 = true := q_dt_app q_dt222_0 (q_dt_app q_dt222_1 (q_dt_app q_dt222_2 (q_dt_app q_dt222_3 (q_dt_app q_dt222_4 (q_dt_app q_dt222_5 (q_dt_app q_dt222_6 (q_dt_app q_dt222_7 (q_dt_app q_dt222_8 (q_dt_app q_dt222_9 (q_dt_app q_dt222_10 (q_dt_app q_dt222_11 (q_dt_app q_dt222_12 (q_dt_app q_dt222_13 (q_dt_app q_dt222_14 (q_dt_app q_dt222_15 (q_dt_app q_dt222_16 (q_dt_app q_dt222_17 (q_dt_app q_dt222_18 (q_dt_app q_dt222_19 (q_dt_app q_dt222_20 (q_dt_app q_dt222_21 (q_dt_app q_dt222_22 (q_dt_app q_dt222_23 (q_dt222_24))))))))))))))))))))))))
theorem q_fetch_ok (y pc : Nat) (i : Instr × Nat) (h : q_fetch y pc = some i) : decode (q_mc y) pc = .ok i ∧ (q_ln i.1 = 0 ∨ q_ln i.1 = i.2) := by
  unfold q_fetch at h
  match y, h with
  | 0, h => exact q_dt_of q_dt0 h
  | 1, h => exact q_dt_of q_dt1 h
  | 2, h => exact q_dt_of q_dt2 h
  | 3, h => exact q_dt_of q_dt3 h
  | 4, h => exact q_dt_of q_dt4 h
  | 5, h => exact q_dt_of q_dt5 h
  | 6, h => exact q_dt_of q_dt6 h
  | 7, h => exact q_dt_of q_dt7 h
  | 8, h => exact q_dt_of q_dt8 h
  | 9, h => exact q_dt_of q_dt9 h
  | 10, h => exact q_dt_of q_dt10 h
  | 11, h => exact q_dt_of q_dt11 h
  | 12, h => exact q_dt_of q_dt12 h
  | 13, h => exact q_dt_of q_dt13 h
  | 14, h => exact q_dt_of q_dt14 h
  | 15, h => exact q_dt_of q_dt15 h
  | 16, h => exact q_dt_of q_dt16 h
  | 17, h => exact q_dt_of q_dt17 h
  | 18, h => exact q_dt_of q_dt18 h
  | 19, h => exact q_dt_of q_dt19 h
  | 20, h => exact q_dt_of q_dt20 h
  | 21, h => exact q_dt_of q_dt21 h
  | 22, h => exact q_dt_of q_dt22 h
  | 23, h => exact q_dt_of q_dt23 h
  | 24, h => exact q_dt_of q_dt24 h
  | 25, h => exact q_dt_of q_dt25 h
  | 26, h => exact q_dt_of q_dt26 h
  | 27, h => exact q_dt_of q_dt27 h
  | 28, h => exact q_dt_of q_dt28 h
  | 29, h => exact q_dt_of q_dt29 h
  | 30, h => exact q_dt_of q_dt30 h
  | 31, h => exact q_dt_of q_dt31 h
  | 32, h => exact q_dt_of q_dt32 h
  | 33, h => exact q_dt_of q_dt33 h
  | 34, h => exact q_dt_of q_dt34 h
  | 35, h => exact q_dt_of q_dt35 h
  | 36, h => exact q_dt_of q_dt36 h
  | 37, h => exact q_dt_of q_dt37 h
  | 38, h => exact q_dt_of q_dt38 h
  | 39, h => exact q_dt_of q_dt39 h
  | 40, h => exact q_dt_of q_dt40 h
  | 41, h => exact q_dt_of q_dt41 h
  | 42, h => exact q_dt_of q_dt42 h
  | 43, h => exact q_dt_of q_dt43 h
  | 44, h => exact q_dt_of q_dt44 h
  | 45, h => exact q_dt_of q_dt45 h
  | 46, h => exact q_dt_of q_dt46 h
  | 47, h => exact q_dt_of q_dt47 h
  | 48, h => exact q_dt_of q_dt48 h
  | 49, h => exact q_dt_of q_dt49 h
  | 50, h => exact q_dt_of q_dt50 h
  | 51, h => exact q_dt_of q_dt51 h
  | 52, h => exact q_dt_of q_dt52 h
  | 53, h => exact q_dt_of q_dt53 h
  | 54, h => exact q_dt_of q_dt54 h
  | 55, h => exact q_dt_of q_dt55 h
  | 56, h => exact q_dt_of q_dt56 h
  | 57, h => exact q_dt_of q_dt57 h
  | 58, h => exact q_dt_of q_dt58 h
  | 59, h => exact q_dt_of q_dt59 h
  | 60, h => exact q_dt_of q_dt60 h
  | 61, h => exact q_dt_of q_dt61 h
  | 62, h => exact q_dt_of q_dt62 h
  | 63, h => exact q_dt_of q_dt63 h
  | 64, h => exact q_dt_of q_dt64 h
  | 65, h => exact q_dt_of q_dt65 h
  | 66, h => exact q_dt_of q_dt66 h
  | 67, h => exact q_dt_of q_dt67 h
  | 68, h => exact q_dt_of q_dt68 h
  | 69, h => exact q_dt_of q_dt69 h
  | 70, h => exact q_dt_of q_dt70 h
  | 71, h => exact q_dt_of q_dt71 h
  | 72, h => exact q_dt_of q_dt72 h
  | 73, h => exact q_dt_of q_dt73 h
  | 74, h => exact q_dt_of q_dt74 h
  | 75, h => exact q_dt_of q_dt75 h
  | 76, h => exact q_dt_of q_dt76 h
  | 77, h => exact q_dt_of q_dt77 h
  | 78, h => exact q_dt_of q_dt78 h
  | 79, h => exact q_dt_of q_dt79 h
  | 80, h => exact q_dt_of q_dt80 h
  | 81, h => exact q_dt_of q_dt81 h
  | 82, h => exact q_dt_of q_dt82 h
  | 83, h => exact q_dt_of q_dt83 h
  | 84, h => exact q_dt_of q_dt84 h
  | 85, h => exact q_dt_of q_dt85 h
  | 86, h => exact q_dt_of q_dt86 h
  | 87, h => exact q_dt_of q_dt87 h
  | 88, h => exact q_dt_of q_dt88 h
  | 89, h => exact q_dt_of q_dt89 h
  | 90, h => exact q_dt_of q_dt90 h
  | 91, h => exact q_dt_of q_dt91 h
  | 92, h => exact q_dt_of q_dt92 h
  | 93, h => exact q_dt_of q_dt93 h
  | 94, h => exact q_dt_of q_dt94 h
  | 95, h => exact q_dt_of q_dt95 h
  | 96, h => exact q_dt_of q_dt96 h
  | 97, h => exact q_dt_of q_dt97 h
  | 98, h => exact q_dt_of q_dt98 h
  | 99, h => exact q_dt_of q_dt99 h
  | 100, h => exact q_dt_of q_dt100 h
  | 101, h => exact q_dt_of q_dt101 h
  | 102, h => exact q_dt_of q_dt102 h
  | 103, h => exact q_dt_of q_dt103 h
  | 104, h => exact q_dt_of q_dt104 h
  | 105, h => exact q_dt_of q_dt105 h
  | 106, h => exact q_dt_of q_dt106 h
  | 107, h => exact q_dt_of q_dt107 h
  | 108, h => exact q_dt_of q_dt108 h
  | 109, h => exact q_dt_of q_dt109 h
  | 110, h => exact q_dt_of q_dt110 h
  | 111, h => exact q_dt_of q_dt111 h
  | 112, h => exact q_dt_of q_dt112 h
  | 113, h => exact q_dt_of q_dt113 h
  | 114, h => exact q_dt_of q_dt114 h
  | 115, h => exact q_dt_of q_dt115 h
  | 116, h => exact q_dt_of q_dt116 h
  | 117, h => exact q_dt_of q_dt117 h
  | 118, h => exact q_dt_of q_dt118 h
  | 119, h => exact q_dt_of q_dt119 h
  | 120, h => exact q_dt_of q_dt120 h
  | 121, h => exact q_dt_of q_dt121 h
  | 122, h => exact q_dt_of q_dt122 h
  | 123, h => exact q_dt_of q_dt123 h
  | 124, h => exact q_dt_of q_dt124 h
  | 125, h => exact q_dt_of q_dt125 h
  | 126, h => exact q_dt_of q_dt126 h
  | 127, h => exact q_dt_of q_dt127 h
  | 128, h => exact q_dt_of q_dt128 h
  | 129, h => exact q_dt_of q_dt129 h
  | 130, h => exact q_dt_of q_dt130 h
  | 131, h => exact q_dt_of q_dt131 h
  | 132, h => exact q_dt_of q_dt132 h
  | 133, h => exact q_dt_of q_dt133 h
  | 134, h => exact q_dt_of q_dt134 h
  | 135, h => exact q_dt_of q_dt135 h
  | 136, h => exact q_dt_of q_dt136 h
  | 137, h => exact q_dt_of q_dt137 h
  | 138, h => exact q_dt_of q_dt138 h
  | 139, h => exact q_dt_of q_dt139 h
  | 140, h => exact q_dt_of q_dt140 h
  | 141, h => exact q_dt_of q_dt141 h
  | 142, h => exact q_dt_of q_dt142 h
  | 143, h => exact q_dt_of q_dt143 h
  | 144, h => exact q_dt_of q_dt144 h
  | 145, h => exact q_dt_of q_dt145 h
  | 146, h => exact q_dt_of q_dt146 h
  | 147, h => exact q_dt_of q_dt147 h
  | 148, h => exact q_dt_of q_dt148 h
  | 149, h => exact q_dt_of q_dt149 h
  | 150, h => exact q_dt_of q_dt150 h
  | 151, h => exact q_dt_of q_dt151 h
  | 152, h => exact q_dt_of q_dt152 h
  | 153, h => exact q_dt_of q_dt153 h
  | 154, h => exact q_dt_of q_dt154 h
  | 155, h => exact q_dt_of q_dt155 h
  | 156, h => exact q_dt_of q_dt156 h
  | 157, h => exact q_dt_of q_dt157 h
  | 158, h => exact q_dt_of q_dt158 h
  | 159, h => exact q_dt_of q_dt159 h
  | 160, h => exact q_dt_of q_dt160 h
  | 161, h => exact q_dt_of q_dt161 h
  | 162, h => exact q_dt_of q_dt162 h
  | 163, h => exact q_dt_of q_dt163 h
  | 164, h => exact q_dt_of q_dt164 h
  | 165, h => exact q_dt_of q_dt165 h
  | 166, h => exact q_dt_of q_dt166 h
  | 167, h => exact q_dt_of q_dt167 h
  | 168, h => exact q_dt_of q_dt168 h
  | 169, h => exact q_dt_of q_dt169 h
  | 170, h => exact q_dt_of q_dt170 h
  | 171, h => exact q_dt_of q_dt171 h
  | 172, h => exact q_dt_of q_dt172 h
  | 173, h => exact q_dt_of q_dt173 h
  | 174, h => exact q_dt_of q_dt174 h
  | 175, h => exact q_dt_of q_dt175 h
  | 176, h => exact q_dt_of q_dt176 h
  | 177, h => exact q_dt_of q_dt177 h
  | 178, h => exact q_dt_of q_dt178 h
  | 179, h => exact q_dt_of q_dt179 h
  | 180, h => exact q_dt_of q_dt180 h
  | 181, h => exact q_dt_of q_dt181 h
  | 182, h => exact q_dt_of q_dt182 h
  | 183, h => exact q_dt_of q_dt183 h
  | 184, h => exact q_dt_of q_dt184 h
  | 185, h => exact q_dt_of q_dt185 h
  | 186, h => exact q_dt_of q_dt186 h
  | 187, h => exact q_dt_of q_dt187 h
  | 188, h => exact q_dt_of q_dt188 h
  | 189, h => exact q_dt_of q_dt189 h
  | 190, h => exact q_dt_of q_dt190 h
  | 191, h => exact q_dt_of q_dt191 h
  | 192, h => exact q_dt_of q_dt192 h
  | 193, h => exact q_dt_of q_dt193 h
  | 194, h => exact q_dt_of q_dt194 h
  | 195, h => exact q_dt_of q_dt195 h
  | 196, h => exact q_dt_of q_dt196 h
  | 197, h => exact q_dt_of q_dt197 h
  | 198, h => exact q_dt_of q_dt198 h
  | 199, h => exact q_dt_of q_dt199 h
  | 200, h => exact q_dt_of q_dt200 h
  | 201, h => exact q_dt_of q_dt201 h
  | 202, h => exact q_dt_of q_dt202 h
  | 203, h => exact q_dt_of q_dt203 h
  | 204, h => exact q_dt_of q_dt204 h
  | 205, h => exact q_dt_of q_dt205 h
  | 206, h => exact q_dt_of q_dt206 h
  | 207, h => exact q_dt_of q_dt207 h
  | 208, h => exact q_dt_of q_dt208 h
  | 209, h => exact q_dt_of q_dt209 h
  | 210, h => exact q_dt_of q_dt210 h
  | 211, h => exact q_dt_of q_dt211 h
  | 212, h => exact q_dt_of q_dt212 h
  | 213, h => exact q_dt_of q_dt213 h
  | 214, h => exact q_dt_of q_dt214 h
  | 215, h => exact q_dt_of q_dt215 h
  | 216, h => exact q_dt_of q_dt216 h
  | 217, h => exact q_dt_of q_dt217 h
  | 218, h => exact q_dt_of q_dt218 h
  | 219, h => exact q_dt_of q_dt219 h
  | 220, h => exact q_dt_of q_dt220 h
  | 221, h => exact q_dt_of q_dt221 h
  | 222, h => exact q_dt_of q_dt222 h
  | 223, h => exact q_dt_of q_dt223 h
  | y + 224, h =>
    rw [List.getD_eq_getElem?_getD, List.getElem?_eq_none (by have hl : q_tabL.length = 224 := by decide +kernel
                                                              omega)] at h
    cases h
theorem q_okt_all (y : Nat) : q_okt y := ⟨q_fetch_ok y, q_pool_ok (q_mo y)⟩
