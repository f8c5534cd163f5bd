/-! VALIDITY, by program (wip/whole/gen_ok.py): each instruction's decoding; each pool entry's words, by their places in lw_tbl -/
/-- places of each method's code and of its class's initialisation -/
def q_psm : List (Nat × Nat) := [(266, 86), (873, 86), (876, 86), (110, 80), (697, 80), (395, 80), (407, 80), (411, 80), (415, 80), (423, 80), (647, 80), (431, 80), (660, 80), (656, 80), (675, 80), (671, 80), (685, 80), (789, 80), (235, 85), (723, 85), (727, 85), (731, 85), (211, 84), (468, 84), (476, 84), (488, 84), (557, 84), (561, 84), (565, 84), (492, 84), (484, 84), (574, 84), (497, 84), (549, 84), (165, 82), (776, 82), (772, 82), (856, 82), (159, 81), (852, 81), (291, 87), (904, 87), (844, 87), (927, 87), (915, 87), (309, 88), (480, 88), (569, 88), (634, 88), (639, 88), (437, 88), (441, 88), (444, 88), (102, 79), (385, 79), (399, 79), (452, 79), (456, 79), (460, 79), (464, 79), (472, 79), (643, 79), (652, 79), (667, 79), (681, 79), (689, 79), (704, 79), (709, 79), (719, 79), (739, 79), (743, 79), (747, 79), (768, 79), (780, 79), (784, 79), (793, 79), (797, 79), (805, 79), (817, 79), (821, 79), (825, 79), (829, 79), (833, 79), (837, 79), (848, 79), (861, 79), (865, 79), (884, 79), (888, 79), (896, 79), (900, 79), (911, 79), (919, 79), (923, 79), (403, 79), (427, 79), (388, 79), (840, 79), (391, 79), (891, 79), (693, 79), (801, 79), (810, 79), (813, 79), (751, 79), (755, 79), (760, 79), (764, 79), (933, 90), (1167, 90), (1412, 90), (1291, 90), (1331, 90), (1179, 90), (1187, 90), (1171, 90), (1339, 90), (1163, 90), (1175, 90), (1183, 90), (1191, 90), (1195, 90), (1215, 90), (1227, 90), (1223, 90), (1219, 90), (1235, 90), (1231, 90), (1251, 90), (1255, 90), (1259, 90), (1247, 90), (1243, 90), (1239, 90), (1211, 90), (1207, 90), (1203, 90), (1199, 90), (1275, 90), (1279, 90), (1311, 90), (1287, 90), (1283, 90), (1271, 90), (1267, 90), (1295, 90), (1299, 90), (1303, 90), (1307, 90), (1263, 90), (1319, 90), (1380, 90), (1315, 90), (1327, 90), (1323, 90), (1347, 90), (1343, 90), (1335, 90), (1355, 90), (1351, 90), (1363, 90), (1368, 90), (1359, 90), (1372, 90), (1376, 90), (1388, 90), (1392, 90), (1384, 90), (1396, 90), (1400, 90), (1408, 90), (1404, 90), (1416, 90), (1420, 90), (1424, 90), (1428, 90), (1436, 90), (1432, 90), (1449, 90), (1445, 90), (1440, 90), (1453, 90), (1457, 90), (1461, 90), (1465, 90), (1469, 90), (1473, 90), (1481, 90), (1485, 90), (1497, 90), (1501, 90), (1493, 90), (1513, 90), (1509, 90), (1505, 90), (1521, 90), (1517, 90), (1489, 90), (1525, 90), (1529, 90), (1533, 90), (1477, 90), (1537, 90), (1545, 90), (1541, 90), (1549, 90), (1553, 90), (712, 97), (501, 91), (511, 91), (578, 91), (582, 91), (505, 91), (515, 91), (521, 91), (518, 92), (589, 92), (586, 92), (594, 92), (907, 89), (341, 89), (526, 93), (0, 0), (869, 86)]
def q_pnL : List Nat := [0, 4, 2, 0, 1, 3, 1, 1, 2, 2, 0, 3, 3, 2, 0, 1, 1, 1, 0, 3, 3, 2, 0, 1, 1, 0, 1, 1, 1, 2, 1, 1, 1, 0, 1, 3, 0, 1, 0, 1, 0, 2, 1, 2, 1, 0, 0, 1, 3, 1, 2, 3, 2, 0, 3, 2, 2, 2, 3, 1, 0, 1, 2, 1, 1, 2, 2, 0, 2, 2, 1, 1, 1, 1, 0, 3, 2, 2, 2, 2, 1, 2, 0, 2, 0, 0, 3, 1, 2, 1, 3, 3, 2, 5, 1, 1, 1, 1, 2, 2, 1, 2, 3, 2, 0, 2, 1, 1, 0, 3, 2, 1, 1, 1, 1, 1, 1, 3, 2, 2, 3, 1, 0, 0, 1, 2, 0, 0, 1, 0, 1, 1, 0, 1, 1, 1, 1, 0, 0, 0, 2, 3, 3, 2, 2, 1, 1, 1, 1, 2, 0, 1, 1, 2, 2, 0, 1, 1, 1, 1, 0, 0, 2, 2, 0, 1, 1, 2, 2, 1, 1, 1, 1, 1, 0, 3, 0, 2, 2, 3, 2, 2, 2, 1, 2, 0, 2, 0, 0, 1, 2, 2, 2, 2, 2, 2, 2, 3, 1, 2, 1, 1, 3, 2, 3, 2, 5, 1, 0, 1, 1, 2, 0, 0, 2, 2, 1, 4, 4, 2, 2, 3, 1, 5]
theorem q_wcode {p : Nat} {y : MethodName} {b : ByteArray} {n : Nat} {r : Option FieldType} (h : lw_tbl[p]? = some (Jvm.Cond.code y b n r)) : Jvm.Cond.code y b n r ∈ lw_good := List.mem_filter.mpr ⟨List.mem_of_getElem? h, rfl⟩
def q_okmb (y n : Nat) : Bool := q_wat (q_psm.getD y (0, 0)).2 (Jvm.Cond.initialized (q_my y).cls) && (decide ((q_my y).cls ≠ "java/lang/invoke/MethodHandle" ∧ (q_my y).cls ≠ "java/lang/invoke/VarHandle") && (decide ((parseMethodDescriptor (q_my y).desc).map (fun d => d.parameters.length) = some n) && (decide (q_ml y ≤ 40) && decide ((q_my y).cls = q_own.getD (q_mo y) ""))))
theorem q_okm_of {y n : Nat} (h0 : Jvm.Cond.code (q_my y) (q_mc y) (q_ml y) (q_mr y) ∈ lw_good) (h : q_okmb y n = true) : q_okm y n := by
  unfold q_okmb at h
  simp only [Bool.and_eq_true, decide_eq_true_eq] at h
  obtain ⟨h2, h3, h4, h5, h6⟩ := h
  exact ⟨h0, q_wat_in h2, h3, h4, h5, h6⟩
set_option maxRecDepth 100000 in
theorem q_cw0 : lw_tbl[266]? = some (Jvm.Cond.code (q_my 0) (q_mc 0) (q_ml 0) (q_mr 0)) := rfl
set_option maxRecDepth 100000 in
theorem q_cw1 : lw_tbl[873]? = some (Jvm.Cond.code (q_my 1) (q_mc 1) (q_ml 1) (q_mr 1)) := rfl
set_option maxRecDepth 100000 in
theorem q_cw2 : lw_tbl[876]? = some (Jvm.Cond.code (q_my 2) (q_mc 2) (q_ml 2) (q_mr 2)) := rfl
set_option maxRecDepth 100000 in
theorem q_cw3 : lw_tbl[110]? = some (Jvm.Cond.code (q_my 3) (q_mc 3) (q_ml 3) (q_mr 3)) := rfl
set_option maxRecDepth 100000 in
theorem q_cw4 : lw_tbl[697]? = some (Jvm.Cond.code (q_my 4) (q_mc 4) (q_ml 4) (q_mr 4)) := rfl
set_option maxRecDepth 100000 in
theorem q_cw5 : lw_tbl[395]? = some (Jvm.Cond.code (q_my 5) (q_mc 5) (q_ml 5) (q_mr 5)) := rfl
set_option maxRecDepth 100000 in
theorem q_cw6 : lw_tbl[407]? = some (Jvm.Cond.code (q_my 6) (q_mc 6) (q_ml 6) (q_mr 6)) := rfl
set_option maxRecDepth 100000 in
theorem q_cw7 : lw_tbl[411]? = some (Jvm.Cond.code (q_my 7) (q_mc 7) (q_ml 7) (q_mr 7)) := rfl
set_option maxRecDepth 100000 in
theorem q_cw8 : lw_tbl[415]? = some (Jvm.Cond.code (q_my 8) (q_mc 8) (q_ml 8) (q_mr 8)) := rfl
set_option maxRecDepth 100000 in
theorem q_cw9 : lw_tbl[423]? = some (Jvm.Cond.code (q_my 9) (q_mc 9) (q_ml 9) (q_mr 9)) := rfl
set_option maxRecDepth 100000 in
theorem q_cw10 : lw_tbl[647]? = some (Jvm.Cond.code (q_my 10) (q_mc 10) (q_ml 10) (q_mr 10)) := rfl
set_option maxRecDepth 100000 in
theorem q_cw11 : lw_tbl[431]? = some (Jvm.Cond.code (q_my 11) (q_mc 11) (q_ml 11) (q_mr 11)) := rfl
set_option maxRecDepth 100000 in
theorem q_cw12 : lw_tbl[660]? = some (Jvm.Cond.code (q_my 12) (q_mc 12) (q_ml 12) (q_mr 12)) := rfl
set_option maxRecDepth 100000 in
theorem q_cw13 : lw_tbl[656]? = some (Jvm.Cond.code (q_my 13) (q_mc 13) (q_ml 13) (q_mr 13)) := rfl
set_option maxRecDepth 100000 in
theorem q_cw14 : lw_tbl[675]? = some (Jvm.Cond.code (q_my 14) (q_mc 14) (q_ml 14) (q_mr 14)) := rfl
set_option maxRecDepth 100000 in
theorem q_cw15 : lw_tbl[671]? = some (Jvm.Cond.code (q_my 15) (q_mc 15) (q_ml 15) (q_mr 15)) := rfl
set_option maxRecDepth 100000 in
theorem q_cw16 : lw_tbl[685]? = some (Jvm.Cond.code (q_my 16) (q_mc 16) (q_ml 16) (q_mr 16)) := rfl
set_option maxRecDepth 100000 in
theorem q_cw17 : lw_tbl[789]? = some (Jvm.Cond.code (q_my 17) (q_mc 17) (q_ml 17) (q_mr 17)) := rfl
set_option maxRecDepth 100000 in
theorem q_cw18 : lw_tbl[235]? = some (Jvm.Cond.code (q_my 18) (q_mc 18) (q_ml 18) (q_mr 18)) := rfl
set_option maxRecDepth 100000 in
theorem q_cw19 : lw_tbl[723]? = some (Jvm.Cond.code (q_my 19) (q_mc 19) (q_ml 19) (q_mr 19)) := rfl
set_option maxRecDepth 100000 in
theorem q_cw20 : lw_tbl[727]? = some (Jvm.Cond.code (q_my 20) (q_mc 20) (q_ml 20) (q_mr 20)) := rfl
set_option maxRecDepth 100000 in
theorem q_cw21 : lw_tbl[731]? = some (Jvm.Cond.code (q_my 21) (q_mc 21) (q_ml 21) (q_mr 21)) := rfl
set_option maxRecDepth 100000 in
theorem q_cw22 : lw_tbl[211]? = some (Jvm.Cond.code (q_my 22) (q_mc 22) (q_ml 22) (q_mr 22)) := rfl
set_option maxRecDepth 100000 in
theorem q_cw23 : lw_tbl[468]? = some (Jvm.Cond.code (q_my 23) (q_mc 23) (q_ml 23) (q_mr 23)) := rfl
set_option maxRecDepth 100000 in
theorem q_cw24 : lw_tbl[476]? = some (Jvm.Cond.code (q_my 24) (q_mc 24) (q_ml 24) (q_mr 24)) := rfl
set_option maxRecDepth 100000 in
theorem q_cw25 : lw_tbl[488]? = some (Jvm.Cond.code (q_my 25) (q_mc 25) (q_ml 25) (q_mr 25)) := rfl
set_option maxRecDepth 100000 in
theorem q_cw26 : lw_tbl[557]? = some (Jvm.Cond.code (q_my 26) (q_mc 26) (q_ml 26) (q_mr 26)) := rfl
set_option maxRecDepth 100000 in
theorem q_cw27 : lw_tbl[561]? = some (Jvm.Cond.code (q_my 27) (q_mc 27) (q_ml 27) (q_mr 27)) := rfl
set_option maxRecDepth 100000 in
theorem q_cw28 : lw_tbl[565]? = some (Jvm.Cond.code (q_my 28) (q_mc 28) (q_ml 28) (q_mr 28)) := rfl
set_option maxRecDepth 100000 in
theorem q_cw29 : lw_tbl[492]? = some (Jvm.Cond.code (q_my 29) (q_mc 29) (q_ml 29) (q_mr 29)) := rfl
set_option maxRecDepth 100000 in
theorem q_cw30 : lw_tbl[484]? = some (Jvm.Cond.code (q_my 30) (q_mc 30) (q_ml 30) (q_mr 30)) := rfl
set_option maxRecDepth 100000 in
theorem q_cw31 : lw_tbl[574]? = some (Jvm.Cond.code (q_my 31) (q_mc 31) (q_ml 31) (q_mr 31)) := rfl
set_option maxRecDepth 100000 in
theorem q_cw32 : lw_tbl[497]? = some (Jvm.Cond.code (q_my 32) (q_mc 32) (q_ml 32) (q_mr 32)) := rfl
set_option maxRecDepth 100000 in
theorem q_cw33 : lw_tbl[549]? = some (Jvm.Cond.code (q_my 33) (q_mc 33) (q_ml 33) (q_mr 33)) := rfl
set_option maxRecDepth 100000 in
theorem q_cw34 : lw_tbl[165]? = some (Jvm.Cond.code (q_my 34) (q_mc 34) (q_ml 34) (q_mr 34)) := rfl
set_option maxRecDepth 100000 in
theorem q_cw35 : lw_tbl[776]? = some (Jvm.Cond.code (q_my 35) (q_mc 35) (q_ml 35) (q_mr 35)) := rfl
set_option maxRecDepth 100000 in
theorem q_cw36 : lw_tbl[772]? = some (Jvm.Cond.code (q_my 36) (q_mc 36) (q_ml 36) (q_mr 36)) := rfl
set_option maxRecDepth 100000 in
theorem q_cw37 : lw_tbl[856]? = some (Jvm.Cond.code (q_my 37) (q_mc 37) (q_ml 37) (q_mr 37)) := rfl
set_option maxRecDepth 100000 in
theorem q_cw38 : lw_tbl[159]? = some (Jvm.Cond.code (q_my 38) (q_mc 38) (q_ml 38) (q_mr 38)) := rfl
set_option maxRecDepth 100000 in
theorem q_cw39 : lw_tbl[852]? = some (Jvm.Cond.code (q_my 39) (q_mc 39) (q_ml 39) (q_mr 39)) := rfl
set_option maxRecDepth 100000 in
theorem q_cw40 : lw_tbl[291]? = some (Jvm.Cond.code (q_my 40) (q_mc 40) (q_ml 40) (q_mr 40)) := rfl
set_option maxRecDepth 100000 in
theorem q_cw41 : lw_tbl[904]? = some (Jvm.Cond.code (q_my 41) (q_mc 41) (q_ml 41) (q_mr 41)) := rfl
set_option maxRecDepth 100000 in
theorem q_cw42 : lw_tbl[844]? = some (Jvm.Cond.code (q_my 42) (q_mc 42) (q_ml 42) (q_mr 42)) := rfl
set_option maxRecDepth 100000 in
theorem q_cw43 : lw_tbl[927]? = some (Jvm.Cond.code (q_my 43) (q_mc 43) (q_ml 43) (q_mr 43)) := rfl
set_option maxRecDepth 100000 in
theorem q_cw44 : lw_tbl[915]? = some (Jvm.Cond.code (q_my 44) (q_mc 44) (q_ml 44) (q_mr 44)) := rfl
set_option maxRecDepth 100000 in
theorem q_cw45 : lw_tbl[309]? = some (Jvm.Cond.code (q_my 45) (q_mc 45) (q_ml 45) (q_mr 45)) := rfl
set_option maxRecDepth 100000 in
theorem q_cw46 : lw_tbl[480]? = some (Jvm.Cond.code (q_my 46) (q_mc 46) (q_ml 46) (q_mr 46)) := rfl
set_option maxRecDepth 100000 in
theorem q_cw47 : lw_tbl[569]? = some (Jvm.Cond.code (q_my 47) (q_mc 47) (q_ml 47) (q_mr 47)) := rfl
set_option maxRecDepth 100000 in
theorem q_cw48 : lw_tbl[634]? = some (Jvm.Cond.code (q_my 48) (q_mc 48) (q_ml 48) (q_mr 48)) := rfl
set_option maxRecDepth 100000 in
theorem q_cw49 : lw_tbl[639]? = some (Jvm.Cond.code (q_my 49) (q_mc 49) (q_ml 49) (q_mr 49)) := rfl
set_option maxRecDepth 100000 in
theorem q_cw50 : lw_tbl[437]? = some (Jvm.Cond.code (q_my 50) (q_mc 50) (q_ml 50) (q_mr 50)) := rfl
set_option maxRecDepth 100000 in
theorem q_cw51 : lw_tbl[441]? = some (Jvm.Cond.code (q_my 51) (q_mc 51) (q_ml 51) (q_mr 51)) := rfl
set_option maxRecDepth 100000 in
theorem q_cw52 : lw_tbl[444]? = some (Jvm.Cond.code (q_my 52) (q_mc 52) (q_ml 52) (q_mr 52)) := rfl
set_option maxRecDepth 100000 in
theorem q_cw53 : lw_tbl[102]? = some (Jvm.Cond.code (q_my 53) (q_mc 53) (q_ml 53) (q_mr 53)) := rfl
set_option maxRecDepth 100000 in
theorem q_cw54 : lw_tbl[385]? = some (Jvm.Cond.code (q_my 54) (q_mc 54) (q_ml 54) (q_mr 54)) := rfl
set_option maxRecDepth 100000 in
theorem q_cw55 : lw_tbl[399]? = some (Jvm.Cond.code (q_my 55) (q_mc 55) (q_ml 55) (q_mr 55)) := rfl
set_option maxRecDepth 100000 in
theorem q_cw56 : lw_tbl[452]? = some (Jvm.Cond.code (q_my 56) (q_mc 56) (q_ml 56) (q_mr 56)) := rfl
set_option maxRecDepth 100000 in
theorem q_cw57 : lw_tbl[456]? = some (Jvm.Cond.code (q_my 57) (q_mc 57) (q_ml 57) (q_mr 57)) := rfl
set_option maxRecDepth 100000 in
theorem q_cw58 : lw_tbl[460]? = some (Jvm.Cond.code (q_my 58) (q_mc 58) (q_ml 58) (q_mr 58)) := rfl
set_option maxRecDepth 100000 in
theorem q_cw59 : lw_tbl[464]? = some (Jvm.Cond.code (q_my 59) (q_mc 59) (q_ml 59) (q_mr 59)) := rfl
set_option maxRecDepth 100000 in
theorem q_cw60 : lw_tbl[472]? = some (Jvm.Cond.code (q_my 60) (q_mc 60) (q_ml 60) (q_mr 60)) := rfl
set_option maxRecDepth 100000 in
theorem q_cw61 : lw_tbl[643]? = some (Jvm.Cond.code (q_my 61) (q_mc 61) (q_ml 61) (q_mr 61)) := rfl
set_option maxRecDepth 100000 in
theorem q_cw62 : lw_tbl[652]? = some (Jvm.Cond.code (q_my 62) (q_mc 62) (q_ml 62) (q_mr 62)) := rfl
set_option maxRecDepth 100000 in
theorem q_cw63 : lw_tbl[667]? = some (Jvm.Cond.code (q_my 63) (q_mc 63) (q_ml 63) (q_mr 63)) := rfl
set_option maxRecDepth 100000 in
theorem q_cw64 : lw_tbl[681]? = some (Jvm.Cond.code (q_my 64) (q_mc 64) (q_ml 64) (q_mr 64)) := rfl
set_option maxRecDepth 100000 in
theorem q_cw65 : lw_tbl[689]? = some (Jvm.Cond.code (q_my 65) (q_mc 65) (q_ml 65) (q_mr 65)) := rfl
set_option maxRecDepth 100000 in
theorem q_cw66 : lw_tbl[704]? = some (Jvm.Cond.code (q_my 66) (q_mc 66) (q_ml 66) (q_mr 66)) := rfl
set_option maxRecDepth 100000 in
theorem q_cw67 : lw_tbl[709]? = some (Jvm.Cond.code (q_my 67) (q_mc 67) (q_ml 67) (q_mr 67)) := rfl
set_option maxRecDepth 100000 in
theorem q_cw68 : lw_tbl[719]? = some (Jvm.Cond.code (q_my 68) (q_mc 68) (q_ml 68) (q_mr 68)) := rfl
set_option maxRecDepth 100000 in
theorem q_cw69 : lw_tbl[739]? = some (Jvm.Cond.code (q_my 69) (q_mc 69) (q_ml 69) (q_mr 69)) := rfl
set_option maxRecDepth 100000 in
theorem q_cw70 : lw_tbl[743]? = some (Jvm.Cond.code (q_my 70) (q_mc 70) (q_ml 70) (q_mr 70)) := rfl
set_option maxRecDepth 100000 in
theorem q_cw71 : lw_tbl[747]? = some (Jvm.Cond.code (q_my 71) (q_mc 71) (q_ml 71) (q_mr 71)) := rfl
set_option maxRecDepth 100000 in
theorem q_cw72 : lw_tbl[768]? = some (Jvm.Cond.code (q_my 72) (q_mc 72) (q_ml 72) (q_mr 72)) := rfl
set_option maxRecDepth 100000 in
theorem q_cw73 : lw_tbl[780]? = some (Jvm.Cond.code (q_my 73) (q_mc 73) (q_ml 73) (q_mr 73)) := rfl
set_option maxRecDepth 100000 in
theorem q_cw74 : lw_tbl[784]? = some (Jvm.Cond.code (q_my 74) (q_mc 74) (q_ml 74) (q_mr 74)) := rfl
set_option maxRecDepth 100000 in
theorem q_cw75 : lw_tbl[793]? = some (Jvm.Cond.code (q_my 75) (q_mc 75) (q_ml 75) (q_mr 75)) := rfl
set_option maxRecDepth 100000 in
theorem q_cw76 : lw_tbl[797]? = some (Jvm.Cond.code (q_my 76) (q_mc 76) (q_ml 76) (q_mr 76)) := rfl
set_option maxRecDepth 100000 in
theorem q_cw77 : lw_tbl[805]? = some (Jvm.Cond.code (q_my 77) (q_mc 77) (q_ml 77) (q_mr 77)) := rfl
set_option maxRecDepth 100000 in
theorem q_cw78 : lw_tbl[817]? = some (Jvm.Cond.code (q_my 78) (q_mc 78) (q_ml 78) (q_mr 78)) := rfl
set_option maxRecDepth 100000 in
theorem q_cw79 : lw_tbl[821]? = some (Jvm.Cond.code (q_my 79) (q_mc 79) (q_ml 79) (q_mr 79)) := rfl
set_option maxRecDepth 100000 in
theorem q_cw80 : lw_tbl[825]? = some (Jvm.Cond.code (q_my 80) (q_mc 80) (q_ml 80) (q_mr 80)) := rfl
set_option maxRecDepth 100000 in
theorem q_cw81 : lw_tbl[829]? = some (Jvm.Cond.code (q_my 81) (q_mc 81) (q_ml 81) (q_mr 81)) := rfl
set_option maxRecDepth 100000 in
theorem q_cw82 : lw_tbl[833]? = some (Jvm.Cond.code (q_my 82) (q_mc 82) (q_ml 82) (q_mr 82)) := rfl
set_option maxRecDepth 100000 in
theorem q_cw83 : lw_tbl[837]? = some (Jvm.Cond.code (q_my 83) (q_mc 83) (q_ml 83) (q_mr 83)) := rfl
set_option maxRecDepth 100000 in
theorem q_cw84 : lw_tbl[848]? = some (Jvm.Cond.code (q_my 84) (q_mc 84) (q_ml 84) (q_mr 84)) := rfl
set_option maxRecDepth 100000 in
theorem q_cw85 : lw_tbl[861]? = some (Jvm.Cond.code (q_my 85) (q_mc 85) (q_ml 85) (q_mr 85)) := rfl
set_option maxRecDepth 100000 in
theorem q_cw86 : lw_tbl[865]? = some (Jvm.Cond.code (q_my 86) (q_mc 86) (q_ml 86) (q_mr 86)) := rfl
set_option maxRecDepth 100000 in
theorem q_cw87 : lw_tbl[884]? = some (Jvm.Cond.code (q_my 87) (q_mc 87) (q_ml 87) (q_mr 87)) := rfl
set_option maxRecDepth 100000 in
theorem q_cw88 : lw_tbl[888]? = some (Jvm.Cond.code (q_my 88) (q_mc 88) (q_ml 88) (q_mr 88)) := rfl
set_option maxRecDepth 100000 in
theorem q_cw89 : lw_tbl[896]? = some (Jvm.Cond.code (q_my 89) (q_mc 89) (q_ml 89) (q_mr 89)) := rfl
set_option maxRecDepth 100000 in
theorem q_cw90 : lw_tbl[900]? = some (Jvm.Cond.code (q_my 90) (q_mc 90) (q_ml 90) (q_mr 90)) := rfl
set_option maxRecDepth 100000 in
theorem q_cw91 : lw_tbl[911]? = some (Jvm.Cond.code (q_my 91) (q_mc 91) (q_ml 91) (q_mr 91)) := rfl
set_option maxRecDepth 100000 in
theorem q_cw92 : lw_tbl[919]? = some (Jvm.Cond.code (q_my 92) (q_mc 92) (q_ml 92) (q_mr 92)) := rfl
set_option maxRecDepth 100000 in
theorem q_cw93 : lw_tbl[923]? = some (Jvm.Cond.code (q_my 93) (q_mc 93) (q_ml 93) (q_mr 93)) := rfl
set_option maxRecDepth 100000 in
theorem q_cw94 : lw_tbl[403]? = some (Jvm.Cond.code (q_my 94) (q_mc 94) (q_ml 94) (q_mr 94)) := rfl
set_option maxRecDepth 100000 in
theorem q_cw95 : lw_tbl[427]? = some (Jvm.Cond.code (q_my 95) (q_mc 95) (q_ml 95) (q_mr 95)) := rfl
set_option maxRecDepth 100000 in
theorem q_cw96 : lw_tbl[388]? = some (Jvm.Cond.code (q_my 96) (q_mc 96) (q_ml 96) (q_mr 96)) := rfl
set_option maxRecDepth 100000 in
theorem q_cw97 : lw_tbl[840]? = some (Jvm.Cond.code (q_my 97) (q_mc 97) (q_ml 97) (q_mr 97)) := rfl
set_option maxRecDepth 100000 in
theorem q_cw98 : lw_tbl[391]? = some (Jvm.Cond.code (q_my 98) (q_mc 98) (q_ml 98) (q_mr 98)) := rfl
set_option maxRecDepth 100000 in
theorem q_cw99 : lw_tbl[891]? = some (Jvm.Cond.code (q_my 99) (q_mc 99) (q_ml 99) (q_mr 99)) := rfl
set_option maxRecDepth 100000 in
theorem q_cw100 : lw_tbl[693]? = some (Jvm.Cond.code (q_my 100) (q_mc 100) (q_ml 100) (q_mr 100)) := rfl
set_option maxRecDepth 100000 in
theorem q_cw101 : lw_tbl[801]? = some (Jvm.Cond.code (q_my 101) (q_mc 101) (q_ml 101) (q_mr 101)) := rfl
set_option maxRecDepth 100000 in
theorem q_cw102 : lw_tbl[810]? = some (Jvm.Cond.code (q_my 102) (q_mc 102) (q_ml 102) (q_mr 102)) := rfl
set_option maxRecDepth 100000 in
theorem q_cw103 : lw_tbl[813]? = some (Jvm.Cond.code (q_my 103) (q_mc 103) (q_ml 103) (q_mr 103)) := rfl
set_option maxRecDepth 100000 in
theorem q_cw104 : lw_tbl[751]? = some (Jvm.Cond.code (q_my 104) (q_mc 104) (q_ml 104) (q_mr 104)) := rfl
set_option maxRecDepth 100000 in
theorem q_cw105 : lw_tbl[755]? = some (Jvm.Cond.code (q_my 105) (q_mc 105) (q_ml 105) (q_mr 105)) := rfl
set_option maxRecDepth 100000 in
theorem q_cw106 : lw_tbl[760]? = some (Jvm.Cond.code (q_my 106) (q_mc 106) (q_ml 106) (q_mr 106)) := rfl
set_option maxRecDepth 100000 in
theorem q_cw107 : lw_tbl[764]? = some (Jvm.Cond.code (q_my 107) (q_mc 107) (q_ml 107) (q_mr 107)) := rfl
set_option maxRecDepth 100000 in
theorem q_cw108 : lw_tbl[933]? = some (Jvm.Cond.code (q_my 108) (q_mc 108) (q_ml 108) (q_mr 108)) := rfl
set_option maxRecDepth 100000 in
theorem q_cw109 : lw_tbl[1167]? = some (Jvm.Cond.code (q_my 109) (q_mc 109) (q_ml 109) (q_mr 109)) := rfl
set_option maxRecDepth 100000 in
theorem q_cw110 : lw_tbl[1412]? = some (Jvm.Cond.code (q_my 110) (q_mc 110) (q_ml 110) (q_mr 110)) := rfl
set_option maxRecDepth 100000 in
theorem q_cw111 : lw_tbl[1291]? = some (Jvm.Cond.code (q_my 111) (q_mc 111) (q_ml 111) (q_mr 111)) := rfl
set_option maxRecDepth 100000 in
theorem q_cw112 : lw_tbl[1331]? = some (Jvm.Cond.code (q_my 112) (q_mc 112) (q_ml 112) (q_mr 112)) := rfl
set_option maxRecDepth 100000 in
theorem q_cw113 : lw_tbl[1179]? = some (Jvm.Cond.code (q_my 113) (q_mc 113) (q_ml 113) (q_mr 113)) := rfl
set_option maxRecDepth 100000 in
theorem q_cw114 : lw_tbl[1187]? = some (Jvm.Cond.code (q_my 114) (q_mc 114) (q_ml 114) (q_mr 114)) := rfl
set_option maxRecDepth 100000 in
theorem q_cw115 : lw_tbl[1171]? = some (Jvm.Cond.code (q_my 115) (q_mc 115) (q_ml 115) (q_mr 115)) := rfl
set_option maxRecDepth 100000 in
theorem q_cw116 : lw_tbl[1339]? = some (Jvm.Cond.code (q_my 116) (q_mc 116) (q_ml 116) (q_mr 116)) := rfl
set_option maxRecDepth 100000 in
theorem q_cw117 : lw_tbl[1163]? = some (Jvm.Cond.code (q_my 117) (q_mc 117) (q_ml 117) (q_mr 117)) := rfl
set_option maxRecDepth 100000 in
theorem q_cw118 : lw_tbl[1175]? = some (Jvm.Cond.code (q_my 118) (q_mc 118) (q_ml 118) (q_mr 118)) := rfl
set_option maxRecDepth 100000 in
theorem q_cw119 : lw_tbl[1183]? = some (Jvm.Cond.code (q_my 119) (q_mc 119) (q_ml 119) (q_mr 119)) := rfl
set_option maxRecDepth 100000 in
theorem q_cw120 : lw_tbl[1191]? = some (Jvm.Cond.code (q_my 120) (q_mc 120) (q_ml 120) (q_mr 120)) := rfl
set_option maxRecDepth 100000 in
theorem q_cw121 : lw_tbl[1195]? = some (Jvm.Cond.code (q_my 121) (q_mc 121) (q_ml 121) (q_mr 121)) := rfl
set_option maxRecDepth 100000 in
theorem q_cw122 : lw_tbl[1215]? = some (Jvm.Cond.code (q_my 122) (q_mc 122) (q_ml 122) (q_mr 122)) := rfl
set_option maxRecDepth 100000 in
theorem q_cw123 : lw_tbl[1227]? = some (Jvm.Cond.code (q_my 123) (q_mc 123) (q_ml 123) (q_mr 123)) := rfl
set_option maxRecDepth 100000 in
theorem q_cw124 : lw_tbl[1223]? = some (Jvm.Cond.code (q_my 124) (q_mc 124) (q_ml 124) (q_mr 124)) := rfl
set_option maxRecDepth 100000 in
theorem q_cw125 : lw_tbl[1219]? = some (Jvm.Cond.code (q_my 125) (q_mc 125) (q_ml 125) (q_mr 125)) := rfl
set_option maxRecDepth 100000 in
theorem q_cw126 : lw_tbl[1235]? = some (Jvm.Cond.code (q_my 126) (q_mc 126) (q_ml 126) (q_mr 126)) := rfl
set_option maxRecDepth 100000 in
theorem q_cw127 : lw_tbl[1231]? = some (Jvm.Cond.code (q_my 127) (q_mc 127) (q_ml 127) (q_mr 127)) := rfl
set_option maxRecDepth 100000 in
theorem q_cw128 : lw_tbl[1251]? = some (Jvm.Cond.code (q_my 128) (q_mc 128) (q_ml 128) (q_mr 128)) := rfl
set_option maxRecDepth 100000 in
theorem q_cw129 : lw_tbl[1255]? = some (Jvm.Cond.code (q_my 129) (q_mc 129) (q_ml 129) (q_mr 129)) := rfl
set_option maxRecDepth 100000 in
theorem q_cw130 : lw_tbl[1259]? = some (Jvm.Cond.code (q_my 130) (q_mc 130) (q_ml 130) (q_mr 130)) := rfl
set_option maxRecDepth 100000 in
theorem q_cw131 : lw_tbl[1247]? = some (Jvm.Cond.code (q_my 131) (q_mc 131) (q_ml 131) (q_mr 131)) := rfl
set_option maxRecDepth 100000 in
theorem q_cw132 : lw_tbl[1243]? = some (Jvm.Cond.code (q_my 132) (q_mc 132) (q_ml 132) (q_mr 132)) := rfl
set_option maxRecDepth 100000 in
theorem q_cw133 : lw_tbl[1239]? = some (Jvm.Cond.code (q_my 133) (q_mc 133) (q_ml 133) (q_mr 133)) := rfl
set_option maxRecDepth 100000 in
theorem q_cw134 : lw_tbl[1211]? = some (Jvm.Cond.code (q_my 134) (q_mc 134) (q_ml 134) (q_mr 134)) := rfl
set_option maxRecDepth 100000 in
theorem q_cw135 : lw_tbl[1207]? = some (Jvm.Cond.code (q_my 135) (q_mc 135) (q_ml 135) (q_mr 135)) := rfl
set_option maxRecDepth 100000 in
theorem q_cw136 : lw_tbl[1203]? = some (Jvm.Cond.code (q_my 136) (q_mc 136) (q_ml 136) (q_mr 136)) := rfl
set_option maxRecDepth 100000 in
theorem q_cw137 : lw_tbl[1199]? = some (Jvm.Cond.code (q_my 137) (q_mc 137) (q_ml 137) (q_mr 137)) := rfl
set_option maxRecDepth 100000 in
theorem q_cw138 : lw_tbl[1275]? = some (Jvm.Cond.code (q_my 138) (q_mc 138) (q_ml 138) (q_mr 138)) := rfl
set_option maxRecDepth 100000 in
theorem q_cw139 : lw_tbl[1279]? = some (Jvm.Cond.code (q_my 139) (q_mc 139) (q_ml 139) (q_mr 139)) := rfl
set_option maxRecDepth 100000 in
theorem q_cw140 : lw_tbl[1311]? = some (Jvm.Cond.code (q_my 140) (q_mc 140) (q_ml 140) (q_mr 140)) := rfl
set_option maxRecDepth 100000 in
theorem q_cw141 : lw_tbl[1287]? = some (Jvm.Cond.code (q_my 141) (q_mc 141) (q_ml 141) (q_mr 141)) := rfl
set_option maxRecDepth 100000 in
theorem q_cw142 : lw_tbl[1283]? = some (Jvm.Cond.code (q_my 142) (q_mc 142) (q_ml 142) (q_mr 142)) := rfl
set_option maxRecDepth 100000 in
theorem q_cw143 : lw_tbl[1271]? = some (Jvm.Cond.code (q_my 143) (q_mc 143) (q_ml 143) (q_mr 143)) := rfl
set_option maxRecDepth 100000 in
theorem q_cw144 : lw_tbl[1267]? = some (Jvm.Cond.code (q_my 144) (q_mc 144) (q_ml 144) (q_mr 144)) := rfl
set_option maxRecDepth 100000 in
theorem q_cw145 : lw_tbl[1295]? = some (Jvm.Cond.code (q_my 145) (q_mc 145) (q_ml 145) (q_mr 145)) := rfl
set_option maxRecDepth 100000 in
theorem q_cw146 : lw_tbl[1299]? = some (Jvm.Cond.code (q_my 146) (q_mc 146) (q_ml 146) (q_mr 146)) := rfl
set_option maxRecDepth 100000 in
theorem q_cw147 : lw_tbl[1303]? = some (Jvm.Cond.code (q_my 147) (q_mc 147) (q_ml 147) (q_mr 147)) := rfl
set_option maxRecDepth 100000 in
theorem q_cw148 : lw_tbl[1307]? = some (Jvm.Cond.code (q_my 148) (q_mc 148) (q_ml 148) (q_mr 148)) := rfl
set_option maxRecDepth 100000 in
theorem q_cw149 : lw_tbl[1263]? = some (Jvm.Cond.code (q_my 149) (q_mc 149) (q_ml 149) (q_mr 149)) := rfl
set_option maxRecDepth 100000 in
theorem q_cw150 : lw_tbl[1319]? = some (Jvm.Cond.code (q_my 150) (q_mc 150) (q_ml 150) (q_mr 150)) := rfl
set_option maxRecDepth 100000 in
theorem q_cw151 : lw_tbl[1380]? = some (Jvm.Cond.code (q_my 151) (q_mc 151) (q_ml 151) (q_mr 151)) := rfl
set_option maxRecDepth 100000 in
theorem q_cw152 : lw_tbl[1315]? = some (Jvm.Cond.code (q_my 152) (q_mc 152) (q_ml 152) (q_mr 152)) := rfl
set_option maxRecDepth 100000 in
theorem q_cw153 : lw_tbl[1327]? = some (Jvm.Cond.code (q_my 153) (q_mc 153) (q_ml 153) (q_mr 153)) := rfl
set_option maxRecDepth 100000 in
theorem q_cw154 : lw_tbl[1323]? = some (Jvm.Cond.code (q_my 154) (q_mc 154) (q_ml 154) (q_mr 154)) := rfl
set_option maxRecDepth 100000 in
theorem q_cw155 : lw_tbl[1347]? = some (Jvm.Cond.code (q_my 155) (q_mc 155) (q_ml 155) (q_mr 155)) := rfl
set_option maxRecDepth 100000 in
theorem q_cw156 : lw_tbl[1343]? = some (Jvm.Cond.code (q_my 156) (q_mc 156) (q_ml 156) (q_mr 156)) := rfl
set_option maxRecDepth 100000 in
theorem q_cw157 : lw_tbl[1335]? = some (Jvm.Cond.code (q_my 157) (q_mc 157) (q_ml 157) (q_mr 157)) := rfl
set_option maxRecDepth 100000 in
theorem q_cw158 : lw_tbl[1355]? = some (Jvm.Cond.code (q_my 158) (q_mc 158) (q_ml 158) (q_mr 158)) := rfl
set_option maxRecDepth 100000 in
theorem q_cw159 : lw_tbl[1351]? = some (Jvm.Cond.code (q_my 159) (q_mc 159) (q_ml 159) (q_mr 159)) := rfl
set_option maxRecDepth 100000 in
theorem q_cw160 : lw_tbl[1363]? = some (Jvm.Cond.code (q_my 160) (q_mc 160) (q_ml 160) (q_mr 160)) := rfl
set_option maxRecDepth 100000 in
theorem q_cw161 : lw_tbl[1368]? = some (Jvm.Cond.code (q_my 161) (q_mc 161) (q_ml 161) (q_mr 161)) := rfl
set_option maxRecDepth 100000 in
theorem q_cw162 : lw_tbl[1359]? = some (Jvm.Cond.code (q_my 162) (q_mc 162) (q_ml 162) (q_mr 162)) := rfl
set_option maxRecDepth 100000 in
theorem q_cw163 : lw_tbl[1372]? = some (Jvm.Cond.code (q_my 163) (q_mc 163) (q_ml 163) (q_mr 163)) := rfl
set_option maxRecDepth 100000 in
theorem q_cw164 : lw_tbl[1376]? = some (Jvm.Cond.code (q_my 164) (q_mc 164) (q_ml 164) (q_mr 164)) := rfl
set_option maxRecDepth 100000 in
theorem q_cw165 : lw_tbl[1388]? = some (Jvm.Cond.code (q_my 165) (q_mc 165) (q_ml 165) (q_mr 165)) := rfl
set_option maxRecDepth 100000 in
theorem q_cw166 : lw_tbl[1392]? = some (Jvm.Cond.code (q_my 166) (q_mc 166) (q_ml 166) (q_mr 166)) := rfl
set_option maxRecDepth 100000 in
theorem q_cw167 : lw_tbl[1384]? = some (Jvm.Cond.code (q_my 167) (q_mc 167) (q_ml 167) (q_mr 167)) := rfl
set_option maxRecDepth 100000 in
theorem q_cw168 : lw_tbl[1396]? = some (Jvm.Cond.code (q_my 168) (q_mc 168) (q_ml 168) (q_mr 168)) := rfl
set_option maxRecDepth 100000 in
theorem q_cw169 : lw_tbl[1400]? = some (Jvm.Cond.code (q_my 169) (q_mc 169) (q_ml 169) (q_mr 169)) := rfl
set_option maxRecDepth 100000 in
theorem q_cw170 : lw_tbl[1408]? = some (Jvm.Cond.code (q_my 170) (q_mc 170) (q_ml 170) (q_mr 170)) := rfl
set_option maxRecDepth 100000 in
theorem q_cw171 : lw_tbl[1404]? = some (Jvm.Cond.code (q_my 171) (q_mc 171) (q_ml 171) (q_mr 171)) := rfl
set_option maxRecDepth 100000 in
theorem q_cw172 : lw_tbl[1416]? = some (Jvm.Cond.code (q_my 172) (q_mc 172) (q_ml 172) (q_mr 172)) := rfl
set_option maxRecDepth 100000 in
theorem q_cw173 : lw_tbl[1420]? = some (Jvm.Cond.code (q_my 173) (q_mc 173) (q_ml 173) (q_mr 173)) := rfl
set_option maxRecDepth 100000 in
theorem q_cw174 : lw_tbl[1424]? = some (Jvm.Cond.code (q_my 174) (q_mc 174) (q_ml 174) (q_mr 174)) := rfl
set_option maxRecDepth 100000 in
theorem q_cw175 : lw_tbl[1428]? = some (Jvm.Cond.code (q_my 175) (q_mc 175) (q_ml 175) (q_mr 175)) := rfl
set_option maxRecDepth 100000 in
theorem q_cw176 : lw_tbl[1436]? = some (Jvm.Cond.code (q_my 176) (q_mc 176) (q_ml 176) (q_mr 176)) := rfl
set_option maxRecDepth 100000 in
theorem q_cw177 : lw_tbl[1432]? = some (Jvm.Cond.code (q_my 177) (q_mc 177) (q_ml 177) (q_mr 177)) := rfl
set_option maxRecDepth 100000 in
theorem q_cw178 : lw_tbl[1449]? = some (Jvm.Cond.code (q_my 178) (q_mc 178) (q_ml 178) (q_mr 178)) := rfl
set_option maxRecDepth 100000 in
theorem q_cw179 : lw_tbl[1445]? = some (Jvm.Cond.code (q_my 179) (q_mc 179) (q_ml 179) (q_mr 179)) := rfl
set_option maxRecDepth 100000 in
theorem q_cw180 : lw_tbl[1440]? = some (Jvm.Cond.code (q_my 180) (q_mc 180) (q_ml 180) (q_mr 180)) := rfl
set_option maxRecDepth 100000 in
theorem q_cw181 : lw_tbl[1453]? = some (Jvm.Cond.code (q_my 181) (q_mc 181) (q_ml 181) (q_mr 181)) := rfl
set_option maxRecDepth 100000 in
theorem q_cw182 : lw_tbl[1457]? = some (Jvm.Cond.code (q_my 182) (q_mc 182) (q_ml 182) (q_mr 182)) := rfl
set_option maxRecDepth 100000 in
theorem q_cw183 : lw_tbl[1461]? = some (Jvm.Cond.code (q_my 183) (q_mc 183) (q_ml 183) (q_mr 183)) := rfl
set_option maxRecDepth 100000 in
theorem q_cw184 : lw_tbl[1465]? = some (Jvm.Cond.code (q_my 184) (q_mc 184) (q_ml 184) (q_mr 184)) := rfl
set_option maxRecDepth 100000 in
theorem q_cw185 : lw_tbl[1469]? = some (Jvm.Cond.code (q_my 185) (q_mc 185) (q_ml 185) (q_mr 185)) := rfl
set_option maxRecDepth 100000 in
theorem q_cw186 : lw_tbl[1473]? = some (Jvm.Cond.code (q_my 186) (q_mc 186) (q_ml 186) (q_mr 186)) := rfl
set_option maxRecDepth 100000 in
theorem q_cw187 : lw_tbl[1481]? = some (Jvm.Cond.code (q_my 187) (q_mc 187) (q_ml 187) (q_mr 187)) := rfl
set_option maxRecDepth 100000 in
theorem q_cw188 : lw_tbl[1485]? = some (Jvm.Cond.code (q_my 188) (q_mc 188) (q_ml 188) (q_mr 188)) := rfl
set_option maxRecDepth 100000 in
theorem q_cw189 : lw_tbl[1497]? = some (Jvm.Cond.code (q_my 189) (q_mc 189) (q_ml 189) (q_mr 189)) := rfl
set_option maxRecDepth 100000 in
theorem q_cw190 : lw_tbl[1501]? = some (Jvm.Cond.code (q_my 190) (q_mc 190) (q_ml 190) (q_mr 190)) := rfl
set_option maxRecDepth 100000 in
theorem q_cw191 : lw_tbl[1493]? = some (Jvm.Cond.code (q_my 191) (q_mc 191) (q_ml 191) (q_mr 191)) := rfl
set_option maxRecDepth 100000 in
theorem q_cw192 : lw_tbl[1513]? = some (Jvm.Cond.code (q_my 192) (q_mc 192) (q_ml 192) (q_mr 192)) := rfl
set_option maxRecDepth 100000 in
theorem q_cw193 : lw_tbl[1509]? = some (Jvm.Cond.code (q_my 193) (q_mc 193) (q_ml 193) (q_mr 193)) := rfl
set_option maxRecDepth 100000 in
theorem q_cw194 : lw_tbl[1505]? = some (Jvm.Cond.code (q_my 194) (q_mc 194) (q_ml 194) (q_mr 194)) := rfl
set_option maxRecDepth 100000 in
theorem q_cw195 : lw_tbl[1521]? = some (Jvm.Cond.code (q_my 195) (q_mc 195) (q_ml 195) (q_mr 195)) := rfl
set_option maxRecDepth 100000 in
theorem q_cw196 : lw_tbl[1517]? = some (Jvm.Cond.code (q_my 196) (q_mc 196) (q_ml 196) (q_mr 196)) := rfl
set_option maxRecDepth 100000 in
theorem q_cw197 : lw_tbl[1489]? = some (Jvm.Cond.code (q_my 197) (q_mc 197) (q_ml 197) (q_mr 197)) := rfl
set_option maxRecDepth 100000 in
theorem q_cw198 : lw_tbl[1525]? = some (Jvm.Cond.code (q_my 198) (q_mc 198) (q_ml 198) (q_mr 198)) := rfl
set_option maxRecDepth 100000 in
theorem q_cw199 : lw_tbl[1529]? = some (Jvm.Cond.code (q_my 199) (q_mc 199) (q_ml 199) (q_mr 199)) := rfl
set_option maxRecDepth 100000 in
theorem q_cw200 : lw_tbl[1533]? = some (Jvm.Cond.code (q_my 200) (q_mc 200) (q_ml 200) (q_mr 200)) := rfl
set_option maxRecDepth 100000 in
theorem q_cw201 : lw_tbl[1477]? = some (Jvm.Cond.code (q_my 201) (q_mc 201) (q_ml 201) (q_mr 201)) := rfl
set_option maxRecDepth 100000 in
theorem q_cw202 : lw_tbl[1537]? = some (Jvm.Cond.code (q_my 202) (q_mc 202) (q_ml 202) (q_mr 202)) := rfl
set_option maxRecDepth 100000 in
theorem q_cw203 : lw_tbl[1545]? = some (Jvm.Cond.code (q_my 203) (q_mc 203) (q_ml 203) (q_mr 203)) := rfl
set_option maxRecDepth 100000 in
theorem q_cw204 : lw_tbl[1541]? = some (Jvm.Cond.code (q_my 204) (q_mc 204) (q_ml 204) (q_mr 204)) := rfl
set_option maxRecDepth 100000 in
theorem q_cw205 : lw_tbl[1549]? = some (Jvm.Cond.code (q_my 205) (q_mc 205) (q_ml 205) (q_mr 205)) := rfl
set_option maxRecDepth 100000 in
theorem q_cw206 : lw_tbl[1553]? = some (Jvm.Cond.code (q_my 206) (q_mc 206) (q_ml 206) (q_mr 206)) := rfl
set_option maxRecDepth 100000 in
theorem q_cw207 : lw_tbl[712]? = some (Jvm.Cond.code (q_my 207) (q_mc 207) (q_ml 207) (q_mr 207)) := rfl
set_option maxRecDepth 100000 in
theorem q_cw208 : lw_tbl[501]? = some (Jvm.Cond.code (q_my 208) (q_mc 208) (q_ml 208) (q_mr 208)) := rfl
set_option maxRecDepth 100000 in
theorem q_cw209 : lw_tbl[511]? = some (Jvm.Cond.code (q_my 209) (q_mc 209) (q_ml 209) (q_mr 209)) := rfl
set_option maxRecDepth 100000 in
theorem q_cw210 : lw_tbl[578]? = some (Jvm.Cond.code (q_my 210) (q_mc 210) (q_ml 210) (q_mr 210)) := rfl
set_option maxRecDepth 100000 in
theorem q_cw211 : lw_tbl[582]? = some (Jvm.Cond.code (q_my 211) (q_mc 211) (q_ml 211) (q_mr 211)) := rfl
set_option maxRecDepth 100000 in
theorem q_cw212 : lw_tbl[505]? = some (Jvm.Cond.code (q_my 212) (q_mc 212) (q_ml 212) (q_mr 212)) := rfl
set_option maxRecDepth 100000 in
theorem q_cw213 : lw_tbl[515]? = some (Jvm.Cond.code (q_my 213) (q_mc 213) (q_ml 213) (q_mr 213)) := rfl
set_option maxRecDepth 100000 in
theorem q_cw214 : lw_tbl[521]? = some (Jvm.Cond.code (q_my 214) (q_mc 214) (q_ml 214) (q_mr 214)) := rfl
set_option maxRecDepth 100000 in
theorem q_cw215 : lw_tbl[518]? = some (Jvm.Cond.code (q_my 215) (q_mc 215) (q_ml 215) (q_mr 215)) := rfl
set_option maxRecDepth 100000 in
theorem q_cw216 : lw_tbl[589]? = some (Jvm.Cond.code (q_my 216) (q_mc 216) (q_ml 216) (q_mr 216)) := rfl
set_option maxRecDepth 100000 in
theorem q_cw217 : lw_tbl[586]? = some (Jvm.Cond.code (q_my 217) (q_mc 217) (q_ml 217) (q_mr 217)) := rfl
set_option maxRecDepth 100000 in
theorem q_cw218 : lw_tbl[594]? = some (Jvm.Cond.code (q_my 218) (q_mc 218) (q_ml 218) (q_mr 218)) := rfl
set_option maxRecDepth 100000 in
theorem q_cw219 : lw_tbl[907]? = some (Jvm.Cond.code (q_my 219) (q_mc 219) (q_ml 219) (q_mr 219)) := rfl
set_option maxRecDepth 100000 in
theorem q_cw220 : lw_tbl[341]? = some (Jvm.Cond.code (q_my 220) (q_mc 220) (q_ml 220) (q_mr 220)) := rfl
set_option maxRecDepth 100000 in
theorem q_cw221 : lw_tbl[526]? = some (Jvm.Cond.code (q_my 221) (q_mc 221) (q_ml 221) (q_mr 221)) := rfl
set_option maxRecDepth 100000 in
theorem q_cw223 : lw_tbl[869]? = some (Jvm.Cond.code (q_my 223) (q_mc 223) (q_ml 223) (q_mr 223)) := rfl
set_option maxRecDepth 100000 in
theorem q_okmb_all : ∀ y, y < 224 → y = 222 ∨ q_okmb y (q_pnL.getD y 0) = true := by decide +kernel
theorem q_okm_all (y : Nat) (hy : y < 224 ∧ y ≠ 222) : q_okm y (q_pnL.getD y 0) := by
  refine q_okm_of ?_ ((q_okmb_all y hy.1).resolve_left hy.2)
  match y, hy with
  | 0, _ => exact q_wcode q_cw0
  | 1, _ => exact q_wcode q_cw1
  | 2, _ => exact q_wcode q_cw2
  | 3, _ => exact q_wcode q_cw3
  | 4, _ => exact q_wcode q_cw4
  | 5, _ => exact q_wcode q_cw5
  | 6, _ => exact q_wcode q_cw6
  | 7, _ => exact q_wcode q_cw7
  | 8, _ => exact q_wcode q_cw8
  | 9, _ => exact q_wcode q_cw9
  | 10, _ => exact q_wcode q_cw10
  | 11, _ => exact q_wcode q_cw11
  | 12, _ => exact q_wcode q_cw12
  | 13, _ => exact q_wcode q_cw13
  | 14, _ => exact q_wcode q_cw14
  | 15, _ => exact q_wcode q_cw15
  | 16, _ => exact q_wcode q_cw16
  | 17, _ => exact q_wcode q_cw17
  | 18, _ => exact q_wcode q_cw18
  | 19, _ => exact q_wcode q_cw19
  | 20, _ => exact q_wcode q_cw20
  | 21, _ => exact q_wcode q_cw21
  | 22, _ => exact q_wcode q_cw22
  | 23, _ => exact q_wcode q_cw23
  | 24, _ => exact q_wcode q_cw24
  | 25, _ => exact q_wcode q_cw25
  | 26, _ => exact q_wcode q_cw26
  | 27, _ => exact q_wcode q_cw27
  | 28, _ => exact q_wcode q_cw28
  | 29, _ => exact q_wcode q_cw29
  | 30, _ => exact q_wcode q_cw30
  | 31, _ => exact q_wcode q_cw31
  | 32, _ => exact q_wcode q_cw32
  | 33, _ => exact q_wcode q_cw33
  | 34, _ => exact q_wcode q_cw34
  | 35, _ => exact q_wcode q_cw35
  | 36, _ => exact q_wcode q_cw36
  | 37, _ => exact q_wcode q_cw37
  | 38, _ => exact q_wcode q_cw38
  | 39, _ => exact q_wcode q_cw39
  | 40, _ => exact q_wcode q_cw40
  | 41, _ => exact q_wcode q_cw41
  | 42, _ => exact q_wcode q_cw42
  | 43, _ => exact q_wcode q_cw43
  | 44, _ => exact q_wcode q_cw44
  | 45, _ => exact q_wcode q_cw45
  | 46, _ => exact q_wcode q_cw46
  | 47, _ => exact q_wcode q_cw47
  | 48, _ => exact q_wcode q_cw48
  | 49, _ => exact q_wcode q_cw49
  | 50, _ => exact q_wcode q_cw50
  | 51, _ => exact q_wcode q_cw51
  | 52, _ => exact q_wcode q_cw52
  | 53, _ => exact q_wcode q_cw53
  | 54, _ => exact q_wcode q_cw54
  | 55, _ => exact q_wcode q_cw55
  | 56, _ => exact q_wcode q_cw56
  | 57, _ => exact q_wcode q_cw57
  | 58, _ => exact q_wcode q_cw58
  | 59, _ => exact q_wcode q_cw59
  | 60, _ => exact q_wcode q_cw60
  | 61, _ => exact q_wcode q_cw61
  | 62, _ => exact q_wcode q_cw62
  | 63, _ => exact q_wcode q_cw63
  | 64, _ => exact q_wcode q_cw64
  | 65, _ => exact q_wcode q_cw65
  | 66, _ => exact q_wcode q_cw66
  | 67, _ => exact q_wcode q_cw67
  | 68, _ => exact q_wcode q_cw68
  | 69, _ => exact q_wcode q_cw69
  | 70, _ => exact q_wcode q_cw70
  | 71, _ => exact q_wcode q_cw71
  | 72, _ => exact q_wcode q_cw72
  | 73, _ => exact q_wcode q_cw73
  | 74, _ => exact q_wcode q_cw74
  | 75, _ => exact q_wcode q_cw75
  | 76, _ => exact q_wcode q_cw76
  | 77, _ => exact q_wcode q_cw77
  | 78, _ => exact q_wcode q_cw78
  | 79, _ => exact q_wcode q_cw79
  | 80, _ => exact q_wcode q_cw80
  | 81, _ => exact q_wcode q_cw81
  | 82, _ => exact q_wcode q_cw82
  | 83, _ => exact q_wcode q_cw83
  | 84, _ => exact q_wcode q_cw84
  | 85, _ => exact q_wcode q_cw85
  | 86, _ => exact q_wcode q_cw86
  | 87, _ => exact q_wcode q_cw87
  | 88, _ => exact q_wcode q_cw88
  | 89, _ => exact q_wcode q_cw89
  | 90, _ => exact q_wcode q_cw90
  | 91, _ => exact q_wcode q_cw91
  | 92, _ => exact q_wcode q_cw92
  | 93, _ => exact q_wcode q_cw93
  | 94, _ => exact q_wcode q_cw94
  | 95, _ => exact q_wcode q_cw95
  | 96, _ => exact q_wcode q_cw96
  | 97, _ => exact q_wcode q_cw97
  | 98, _ => exact q_wcode q_cw98
  | 99, _ => exact q_wcode q_cw99
  | 100, _ => exact q_wcode q_cw100
  | 101, _ => exact q_wcode q_cw101
  | 102, _ => exact q_wcode q_cw102
  | 103, _ => exact q_wcode q_cw103
  | 104, _ => exact q_wcode q_cw104
  | 105, _ => exact q_wcode q_cw105
  | 106, _ => exact q_wcode q_cw106
  | 107, _ => exact q_wcode q_cw107
  | 108, _ => exact q_wcode q_cw108
  | 109, _ => exact q_wcode q_cw109
  | 110, _ => exact q_wcode q_cw110
  | 111, _ => exact q_wcode q_cw111
  | 112, _ => exact q_wcode q_cw112
  | 113, _ => exact q_wcode q_cw113
  | 114, _ => exact q_wcode q_cw114
  | 115, _ => exact q_wcode q_cw115
  | 116, _ => exact q_wcode q_cw116
  | 117, _ => exact q_wcode q_cw117
  | 118, _ => exact q_wcode q_cw118
  | 119, _ => exact q_wcode q_cw119
  | 120, _ => exact q_wcode q_cw120
  | 121, _ => exact q_wcode q_cw121
  | 122, _ => exact q_wcode q_cw122
  | 123, _ => exact q_wcode q_cw123
  | 124, _ => exact q_wcode q_cw124
  | 125, _ => exact q_wcode q_cw125
  | 126, _ => exact q_wcode q_cw126
  | 127, _ => exact q_wcode q_cw127
  | 128, _ => exact q_wcode q_cw128
  | 129, _ => exact q_wcode q_cw129
  | 130, _ => exact q_wcode q_cw130
  | 131, _ => exact q_wcode q_cw131
  | 132, _ => exact q_wcode q_cw132
  | 133, _ => exact q_wcode q_cw133
  | 134, _ => exact q_wcode q_cw134
  | 135, _ => exact q_wcode q_cw135
  | 136, _ => exact q_wcode q_cw136
  | 137, _ => exact q_wcode q_cw137
  | 138, _ => exact q_wcode q_cw138
  | 139, _ => exact q_wcode q_cw139
  | 140, _ => exact q_wcode q_cw140
  | 141, _ => exact q_wcode q_cw141
  | 142, _ => exact q_wcode q_cw142
  | 143, _ => exact q_wcode q_cw143
  | 144, _ => exact q_wcode q_cw144
  | 145, _ => exact q_wcode q_cw145
  | 146, _ => exact q_wcode q_cw146
  | 147, _ => exact q_wcode q_cw147
  | 148, _ => exact q_wcode q_cw148
  | 149, _ => exact q_wcode q_cw149
  | 150, _ => exact q_wcode q_cw150
  | 151, _ => exact q_wcode q_cw151
  | 152, _ => exact q_wcode q_cw152
  | 153, _ => exact q_wcode q_cw153
  | 154, _ => exact q_wcode q_cw154
  | 155, _ => exact q_wcode q_cw155
  | 156, _ => exact q_wcode q_cw156
  | 157, _ => exact q_wcode q_cw157
  | 158, _ => exact q_wcode q_cw158
  | 159, _ => exact q_wcode q_cw159
  | 160, _ => exact q_wcode q_cw160
  | 161, _ => exact q_wcode q_cw161
  | 162, _ => exact q_wcode q_cw162
  | 163, _ => exact q_wcode q_cw163
  | 164, _ => exact q_wcode q_cw164
  | 165, _ => exact q_wcode q_cw165
  | 166, _ => exact q_wcode q_cw166
  | 167, _ => exact q_wcode q_cw167
  | 168, _ => exact q_wcode q_cw168
  | 169, _ => exact q_wcode q_cw169
  | 170, _ => exact q_wcode q_cw170
  | 171, _ => exact q_wcode q_cw171
  | 172, _ => exact q_wcode q_cw172
  | 173, _ => exact q_wcode q_cw173
  | 174, _ => exact q_wcode q_cw174
  | 175, _ => exact q_wcode q_cw175
  | 176, _ => exact q_wcode q_cw176
  | 177, _ => exact q_wcode q_cw177
  | 178, _ => exact q_wcode q_cw178
  | 179, _ => exact q_wcode q_cw179
  | 180, _ => exact q_wcode q_cw180
  | 181, _ => exact q_wcode q_cw181
  | 182, _ => exact q_wcode q_cw182
  | 183, _ => exact q_wcode q_cw183
  | 184, _ => exact q_wcode q_cw184
  | 185, _ => exact q_wcode q_cw185
  | 186, _ => exact q_wcode q_cw186
  | 187, _ => exact q_wcode q_cw187
  | 188, _ => exact q_wcode q_cw188
  | 189, _ => exact q_wcode q_cw189
  | 190, _ => exact q_wcode q_cw190
  | 191, _ => exact q_wcode q_cw191
  | 192, _ => exact q_wcode q_cw192
  | 193, _ => exact q_wcode q_cw193
  | 194, _ => exact q_wcode q_cw194
  | 195, _ => exact q_wcode q_cw195
  | 196, _ => exact q_wcode q_cw196
  | 197, _ => exact q_wcode q_cw197
  | 198, _ => exact q_wcode q_cw198
  | 199, _ => exact q_wcode q_cw199
  | 200, _ => exact q_wcode q_cw200
  | 201, _ => exact q_wcode q_cw201
  | 202, _ => exact q_wcode q_cw202
  | 203, _ => exact q_wcode q_cw203
  | 204, _ => exact q_wcode q_cw204
  | 205, _ => exact q_wcode q_cw205
  | 206, _ => exact q_wcode q_cw206
  | 207, _ => exact q_wcode q_cw207
  | 208, _ => exact q_wcode q_cw208
  | 209, _ => exact q_wcode q_cw209
  | 210, _ => exact q_wcode q_cw210
  | 211, _ => exact q_wcode q_cw211
  | 212, _ => exact q_wcode q_cw212
  | 213, _ => exact q_wcode q_cw213
  | 214, _ => exact q_wcode q_cw214
  | 215, _ => exact q_wcode q_cw215
  | 216, _ => exact q_wcode q_cw216
  | 217, _ => exact q_wcode q_cw217
  | 218, _ => exact q_wcode q_cw218
  | 219, _ => exact q_wcode q_cw219
  | 220, _ => exact q_wcode q_cw220
  | 221, _ => exact q_wcode q_cw221
  | 222, h => exact absurd rfl h.2
  | 223, _ => exact q_wcode q_cw223
  | y + 224, h => exact absurd h.1 (by omega)
def q_okp (o i : Nat) (e : q_E) (a b c : Nat) : Bool := match e with
  | (0, ci, k, _) => (decide (ci < 10) && (decide (k < (q_clk ci).2.2) && (q_wat a (Jvm.Cond.fieldLink (q_own.getD o "") i (q_clk ci).1 ((q_clk ci).2.1 k).2.1 ((q_clk ci).2.1 k).2.2.1) && decide ((q_clk ci).1 = ((q_clk ci).2.1 k).1)))) || ((decide (ci = 10 ∧ k = 0) && q_wat a (Jvm.Cond.fieldLink (q_own.getD o "") i "java/lang/String" "value" "[B")) || (decide (ci = 10 ∧ k = 1) && q_wat a (Jvm.Cond.fieldLink (q_own.getD o "") i "java/lang/String" "coder" "B")))
  | (2, y, n, _) => decide ((y < q_nY ∧ y ≠ q_nL) ∧ n = q_pnL.getD y 0) && (q_wat a (Jvm.Cond.methodLink (q_own.getD o "") i (q_my y)) && (q_wat b (Jvm.Cond.instanceMethod (q_my y)) && q_wat c (Jvm.Cond.selects (q_my y).cls (q_my y) (q_my y))))
  | (3, y, n, _) => decide ((y < q_nY ∧ y ≠ q_nL) ∧ n = q_pnL.getD y 0) && (q_wat a (Jvm.Cond.methodLink (q_own.getD o "") i (q_my y)) && q_wat b (Jvm.Cond.static (q_my y)))
  | (4, y, n, _) => decide ((y < q_nY ∧ y ≠ q_nL) ∧ n = q_pnL.getD y 0) && (q_wat a (Jvm.Cond.methodLink (q_own.getD o "") i (q_my y)) && (q_wat b (Jvm.Cond.instanceMethod (q_my y)) && (decide ((q_my y).name = "<init>") && decide (q_mr y = none))))
  | (14, y, n, _) => decide ((y < q_nY ∧ y ≠ q_nL) ∧ n = q_pnL.getD y 0) && (decide (Jvm.Cond.methodLinkNest (q_own.getD o "") i (q_my y) "BellsThatEat" ∈ q_nest) && (q_wat b (Jvm.Cond.instanceMethod (q_my y)) && (decide ((q_my y).name = "<init>") && decide (q_mr y = none))))
  | (5, ci, _, _) => decide (ci < 10) && (q_wat a (Jvm.Cond.classLink (q_own.getD o "") i (q_clk ci).1) && (q_wat b (Jvm.Cond.instantiable (q_clk ci).1 (q_clk ci).2.2) && q_wat c (Jvm.Cond.initialized (q_clk ci).1)))
  | (6, _, _, v) => q_stat.any (fun q => decide (q.2.2.2 = v) && q_wat a (Jvm.Cond.fieldLink (q_own.getD o "") i q.1 q.2.1 q.2.2.1))
  | (16, _, _, v) => q_stat.any (fun q => decide (q.2.2.2 = v) && decide (Jvm.Cond.fieldLinkNest (q_own.getD o "") i q.1 q.2.1 q.2.2.1 "BellsThatEat" ∈ q_nest))
  | (7, _, _, .int z) => q_wat a (Jvm.Cond.constant (q_own.getD o "") i z)
  | (8, _, _, .long z) => q_wat a (Jvm.Cond.constantLong (q_own.getD o "") i z)
  | (9, r, _, _) => decide (r - 1010 < 6 ∧ r = 1010 + (r - 1010)) && decide ((q_strs[r - 1010]?).map (fun q => (q.1, q.2.1)) = some (q_own.getD o "", i))
  | (10, _, _, _) => q_wat a (Jvm.Cond.methodLink (q_own.getD o "") i arraycopyName) && (q_wat 700 (Jvm.Cond.native arraycopyName) && (q_wat 699 (Jvm.Cond.static arraycopyName) && q_wat 96 (Jvm.Cond.initialized "java/lang/System")))
  | (20, _, _, _) => q_wat a (Jvm.Cond.methodLink (q_own.getD o "") i Lib.Math.max.name) && (q_wat 446 (Jvm.Cond.static Lib.Math.max.name) && (q_wat 83 (Jvm.Cond.initialized "java/lang/Math") && q_wat 447 (Jvm.Cond.code Lib.Math.max.name Lib.Math.max.code 2 (some .int))))
  | (21, _, _, _) => q_wat a (Jvm.Cond.methodLink (q_own.getD o "") i Lib.Math.min.name) && (q_wat 168 (Jvm.Cond.static Lib.Math.min.name) && (q_wat 83 (Jvm.Cond.initialized "java/lang/Math") && q_wat 169 (Jvm.Cond.code Lib.Math.min.name Lib.Math.min.code 2 (some .int))))
  | (22, _, _, _) => q_wat a (Jvm.Cond.methodLink (q_own.getD o "") i Lib.Math.abs.name) && (q_wat 418 (Jvm.Cond.static Lib.Math.abs.name) && (q_wat 83 (Jvm.Cond.initialized "java/lang/Math") && q_wat 419 (Jvm.Cond.code Lib.Math.abs.name Lib.Math.abs.code 1 (some .int))))
  | (11, _, _, _) => q_wat a (Jvm.Cond.methodLink (q_own.getD o "") i Lib.objectInit) && (q_wat 104 (Jvm.Cond.instanceMethod Lib.objectInit) && q_wat 105 (Jvm.Cond.code Lib.objectInit ⟨#[0xb1]⟩ 1 none))
  | _ => false
theorem q_okp_in {o i : Nat} {e : q_E} {a b c : Nat} (h : q_okp o i e a b c = true) : q_ok o i e := by
  unfold q_okp at h
  split at h
  · simp only [Bool.or_eq_true, Bool.and_eq_true, decide_eq_true_eq] at h
    rcases h with ⟨h1, h2, h3, h4⟩ | ⟨⟨h1, h2⟩, h3⟩ | ⟨⟨h1, h2⟩, h3⟩
    · exact Or.inl ⟨h1, h2, q_wat_in h3, h4⟩
    · exact Or.inr (Or.inl ⟨h1, h2, q_wat_in h3⟩)
    · exact Or.inr (Or.inr ⟨h1, h2, q_wat_in h3⟩)
  · rename_i y n _
    simp only [Bool.and_eq_true, decide_eq_true_eq] at h
    exact ⟨h.1.2 ▸ q_okm_all y h.1.1, q_wat_in h.2.1, q_wat_in h.2.2.1, q_wat_in h.2.2.2⟩
  · rename_i y n _
    simp only [Bool.and_eq_true, decide_eq_true_eq] at h
    exact ⟨h.1.2 ▸ q_okm_all y h.1.1, q_wat_in h.2.1, q_wat_in h.2.2⟩
  · rename_i y n _
    simp only [Bool.and_eq_true, decide_eq_true_eq] at h
    exact ⟨h.1.2 ▸ q_okm_all y h.1.1, q_wat_in h.2.1, q_wat_in h.2.2.1, h.2.2.2.1, h.2.2.2.2⟩
  · rename_i y n _
    simp only [Bool.and_eq_true, decide_eq_true_eq] at h
    exact ⟨h.1.2 ▸ q_okm_all y h.1.1, h.2.1, q_wat_in h.2.2.1, h.2.2.2.1, h.2.2.2.2⟩
  · simp only [Bool.and_eq_true, decide_eq_true_eq] at h
    exact ⟨h.1, q_wat_in h.2.1, q_wat_in h.2.2.1, q_wat_in h.2.2.2⟩
  · obtain ⟨q, hq, h1⟩ := List.any_eq_true.mp h
    simp only [Bool.and_eq_true, decide_eq_true_eq] at h1
    exact ⟨q, hq, h1.1, q_wat_in h1.2⟩
  · obtain ⟨q, hq, h1⟩ := List.any_eq_true.mp h
    simp only [Bool.and_eq_true, decide_eq_true_eq] at h1
    exact ⟨q, hq, h1.1, h1.2⟩
  · exact ⟨_, rfl, q_wat_in h⟩
  · exact ⟨_, rfl, q_wat_in h⟩
  · simp only [Bool.and_eq_true, decide_eq_true_eq] at h
    obtain ⟨⟨h1, h2⟩, h3⟩ := h
    obtain ⟨q, hq, h4⟩ := Option.map_eq_some_iff.mp h3
    exact ⟨_, q, hq, h2, h1, (Prod.mk.inj h4).1, (Prod.mk.inj h4).2⟩
  · simp only [Bool.and_eq_true] at h
    exact ⟨q_wat_in h.1, q_wat_in h.2.1, q_wat_in h.2.2.1, q_wat_in h.2.2.2⟩
  · simp only [Bool.and_eq_true] at h
    exact ⟨q_wat_in h.1, q_wat_in h.2.1, q_wat_in h.2.2.1, q_wat_in h.2.2.2⟩
  · simp only [Bool.and_eq_true] at h
    exact ⟨q_wat_in h.1, q_wat_in h.2.1, q_wat_in h.2.2.1, q_wat_in h.2.2.2⟩
  · simp only [Bool.and_eq_true] at h
    exact ⟨q_wat_in h.1, q_wat_in h.2.1, q_wat_in h.2.2.1, q_wat_in h.2.2.2⟩
  · simp only [Bool.and_eq_true] at h
    exact ⟨q_wat_in h.1, q_wat_in h.2.1, q_wat_in h.2.2⟩
  · cases h
def q_w0 : List (Nat × Nat × Nat) := [(267, 0, 0), (273, 0, 0), (268, 0, 0), (269, 0, 0), (270, 0, 0), (271, 0, 0), (870, 872, 19), (874, 875, 0), (877, 0, 0), (879, 0, 0)]
set_option maxRecDepth 100000 in
theorem q_pok0 : (q_p0.zip q_w0).all (fun z => q_okp 0 z.1.1 z.1.2 z.2.1 z.2.2.1 z.2.2.2) = true ∧ q_p0.length ≤ q_w0.length := by decide +kernel
def q_w1 : List (Nat × Nat × Nat) := [(111, 0, 0), (114, 0, 0), (116, 0, 0), (118, 0, 0), (121, 0, 0), (123, 0, 0), (132, 0, 0), (112, 0, 0), (698, 0, 0), (126, 0, 0), (128, 0, 0), (131, 0, 0), (416, 409, 410), (417, 0, 0), (424, 413, 414), (313, 0, 0), (648, 421, 422), (432, 0, 0), (434, 435, 436), (448, 0, 0), (661, 429, 430), (657, 658, 659), (676, 405, 406), (677, 0, 0), (318, 0, 0), (672, 673, 674)]
set_option maxRecDepth 100000 in
theorem q_pok1 : (q_p1.zip q_w1).all (fun z => q_okp 1 z.1.1 z.1.2 z.2.1 z.2.2.1 z.2.2.2) = true ∧ q_p1.length ≤ q_w1.length := by decide +kernel
def q_w2 : List (Nat × Nat × Nat) := [(236, 0, 0), (240, 0, 0), (245, 0, 0), (237, 0, 0), (238, 0, 0), (239, 0, 0), (241, 0, 0), (243, 0, 0), (119, 0, 0), (724, 726, 12), (728, 730, 13), (125, 0, 0), (734, 0, 0), (735, 658, 659), (732, 421, 422), (733, 0, 0)]
set_option maxRecDepth 100000 in
theorem q_pok2 : (q_p2.zip q_w2).all (fun z => q_okp 2 z.1.1 z.1.2 z.2.1 z.2.2.1 z.2.2.2) = true ∧ q_p2.length ≤ q_w2.length := by decide +kernel
def q_w3 : List (Nat × Nat × Nat) := [(212, 0, 0), (213, 0, 0), (214, 0, 0), (218, 0, 0), (477, 478, 479), (216, 0, 0), (481, 483, 2), (485, 487, 3), (489, 491, 4), (493, 0, 0), (494, 496, 5), (312, 0, 0), (551, 0, 0), (316, 0, 0), (552, 0, 0), (553, 0, 0), (554, 556, 7), (636, 637, 638), (558, 560, 8), (566, 567, 568), (562, 564, 9), (570, 0, 0), (571, 573, 10), (630, 0, 0), (546, 548, 6), (631, 632, 633), (575, 576, 577), (498, 499, 500), (508, 509, 510), (550, 0, 0)]
set_option maxRecDepth 100000 in
theorem q_pok3 : (q_p3.zip q_w3).all (fun z => q_okp 3 z.1.1 z.1.2 z.2.1 z.2.2.1 z.2.2.2) = true ∧ q_p3.length ≤ q_w3.length := by decide +kernel
def q_w4 : List (Nat × Nat × Nat) := [(166, 0, 0), (173, 0, 0), (175, 0, 0), (177, 0, 0), (167, 0, 0), (170, 0, 0), (171, 0, 0), (857, 0, 0)]
set_option maxRecDepth 100000 in
theorem q_pok4 : (q_p4.zip q_w4).all (fun z => q_okp 4 z.1.1 z.1.2 z.2.1 z.2.2.1 z.2.2.2) = true ∧ q_p4.length ≤ q_w4.length := by decide +kernel
def q_w5 : List (Nat × Nat × Nat) := [(160, 0, 0), (161, 162, 82), (163, 164, 0), (190, 0, 0), (192, 0, 0), (194, 0, 0), (196, 0, 0), (853, 854, 855)]
set_option maxRecDepth 100000 in
theorem q_pok5 : (q_p5.zip q_w5).all (fun z => q_okp 5 z.1.1 z.1.2 z.2.1 z.2.2.1 z.2.2.2) = true ∧ q_p5.length ≤ q_w5.length := by decide +kernel
def q_w6 : List (Nat × Nat × Nat) := [(292, 0, 0), (293, 0, 0), (296, 0, 0), (295, 0, 0), (905, 906, 0)]
set_option maxRecDepth 100000 in
theorem q_pok6 : (q_p6.zip q_w6).all (fun z => q_okp 6 z.1.1 z.1.2 z.2.1 z.2.2.1 z.2.2.2) = true ∧ q_p6.length ≤ q_w6.length := by decide +kernel
def q_w7 : List (Nat × Nat × Nat) := [(310, 0, 0), (320, 0, 0), (321, 0, 0), (323, 0, 0), (311, 0, 0), (315, 0, 0), (319, 0, 0), (322, 0, 0), (635, 567, 568), (438, 440, 1), (445, 0, 0), (442, 443, 0)]
set_option maxRecDepth 100000 in
theorem q_pok7 : (q_p7.zip q_w7).all (fun z => q_okp 7 z.1.1 z.1.2 z.2.1 z.2.2.1 z.2.2.2) = true ∧ q_p7.length ≤ q_w7.length := by decide +kernel
def q_w8 : List (Nat × Nat × Nat) := [(103, 0, 0), (106, 107, 80), (108, 109, 0), (342, 0, 0), (343, 0, 0), (344, 0, 0), (155, 156, 81), (157, 158, 0), (345, 0, 0), (346, 0, 0), (207, 208, 84), (209, 210, 0), (348, 0, 0), (229, 306, 88), (349, 0, 0), (231, 232, 85), (233, 234, 0), (351, 0, 0), (262, 263, 86), (264, 265, 0), (352, 0, 0), (353, 0, 0), (286, 288, 87), (354, 0, 0), (289, 290, 0), (307, 308, 0), (130, 0, 0), (124, 0, 0), (339, 340, 0), (386, 387, 0), (389, 390, 0), (113, 0, 0), (392, 393, 394), (400, 402, 0), (120, 0, 0), (115, 0, 0), (117, 0, 0), (404, 405, 406), (408, 409, 410), (412, 413, 414), (420, 421, 422), (425, 426, 0), (428, 429, 430), (122, 0, 0), (465, 466, 467), (350, 0, 0), (473, 474, 475), (215, 0, 0), (217, 0, 0), (127, 0, 0), (129, 0, 0), (314, 0, 0), (317, 0, 0), (644, 645, 646), (653, 654, 655), (662, 0, 0), (663, 0, 0), (668, 669, 670), (682, 683, 684), (690, 692, 11), (705, 673, 674), (710, 711, 0), (720, 721, 722), (244, 0, 0), (246, 0, 0), (242, 0, 0), (748, 750, 14), (757, 759, 16), (191, 0, 0), (769, 770, 771), (773, 774, 775), (172, 0, 0), (174, 0, 0), (785, 0, 0), (786, 787, 788), (193, 0, 0), (798, 800, 18), (806, 0, 0), (807, 658, 659), (808, 809, 0), (195, 0, 0), (176, 0, 0), (197, 0, 0), (838, 839, 0), (294, 0, 0), (841, 842, 843), (297, 0, 0), (694, 695, 696), (849, 850, 851), (347, 0, 0), (272, 0, 0), (866, 867, 868), (274, 0, 0), (889, 890, 0), (901, 902, 903), (912, 913, 914), (924, 925, 926), (928, 0, 0), (892, 0, 0), (178, 0, 0), (811, 812, 0), (752, 754, 15), (756, 0, 0), (761, 763, 17)]
set_option maxRecDepth 100000 in
theorem q_pok8 : (q_p8.zip q_w8).all (fun z => q_okp 8 z.1.1 z.1.2 z.2.1 z.2.2.1 z.2.2.2) = true ∧ q_p8.length ≤ q_w8.length := by decide +kernel
def q_w9 : List (Nat × Nat × Nat) := [(934, 0, 0), (936, 0, 0), (937, 0, 0), (938, 0, 0), (939, 0, 0), (940, 0, 0), (941, 0, 0), (942, 0, 0), (943, 0, 0), (944, 0, 0), (945, 0, 0), (946, 0, 0), (947, 0, 0), (948, 0, 0), (949, 0, 0), (950, 0, 0), (951, 0, 0), (952, 0, 0), (953, 0, 0), (954, 0, 0), (955, 0, 0), (956, 0, 0), (957, 0, 0), (958, 0, 0), (959, 0, 0), (960, 0, 0), (961, 0, 0), (935, 0, 0), (962, 0, 0), (963, 0, 0), (964, 0, 0), (965, 0, 0), (966, 0, 0), (967, 0, 0), (968, 0, 0), (969, 0, 0), (970, 0, 0), (971, 0, 0), (972, 0, 0), (973, 0, 0), (974, 0, 0), (975, 0, 0), (976, 0, 0), (977, 0, 0), (978, 0, 0), (979, 0, 0), (980, 0, 0), (981, 0, 0), (982, 0, 0), (983, 0, 0), (984, 0, 0), (985, 0, 0), (986, 0, 0), (987, 0, 0), (988, 0, 0), (989, 0, 0), (990, 0, 0), (991, 0, 0), (992, 0, 0), (993, 0, 0), (994, 0, 0), (995, 0, 0), (996, 0, 0), (997, 0, 0), (998, 0, 0), (999, 0, 0), (1000, 0, 0), (1001, 0, 0), (1002, 0, 0), (1003, 0, 0), (1004, 0, 0), (1005, 0, 0), (1006, 0, 0), (1007, 0, 0), (1008, 0, 0), (1009, 0, 0), (1164, 1166, 20), (1168, 1170, 21), (1176, 1178, 22), (1184, 1186, 23), (1212, 1214, 27), (1220, 1222, 29), (1232, 1234, 32), (1248, 1250, 36), (1244, 1246, 35), (1228, 1230, 31), (1252, 1254, 37), (1240, 1242, 34), (1256, 1258, 38), (1216, 1218, 28), (1224, 1226, 30), (1208, 1210, 26), (1236, 1238, 33), (1204, 1206, 25), (1200, 1202, 24), (1272, 1274, 41), (1276, 1278, 42), (1284, 1286, 44), (1280, 1282, 43), (1288, 1290, 45), (1268, 1270, 40), (1296, 1298, 47), (1300, 1302, 48), (1308, 1310, 50), (1264, 1266, 39), (1292, 1294, 46), (1304, 1306, 49), (1316, 1318, 51), (1328, 1330, 53), (1324, 1326, 52), (1344, 1346, 56), (1336, 1338, 54), (1340, 1342, 55), (1352, 1354, 57), (1364, 0, 0), (1360, 1362, 58), (1365, 1367, 59), (1377, 1379, 60), (1385, 1387, 61), (1389, 1391, 62), (1409, 1411, 64), (1405, 1407, 63), (1433, 1435, 65), (1446, 1448, 67), (1441, 0, 0), (1442, 1444, 66), (1474, 1476, 68), (1494, 1496, 70), (1498, 1500, 71), (1490, 1492, 69), (1510, 1512, 74), (1506, 1508, 73), (1502, 1504, 72), (1518, 1520, 76), (1514, 1516, 75), (1542, 1544, 77)]
set_option maxRecDepth 100000 in
theorem q_pok9 : (q_p9.zip q_w9).all (fun z => q_okp 9 z.1.1 z.1.2 z.2.1 z.2.2.1 z.2.2.2) = true ∧ q_p9.length ≤ q_w9.length := by decide +kernel
def q_w10 : List (Nat × Nat × Nat) := [(713, 0, 0), (714, 0, 0), (715, 0, 0)]
set_option maxRecDepth 100000 in
theorem q_pok10 : (q_p10.zip q_w10).all (fun z => q_okp 10 z.1.1 z.1.2 z.2.1 z.2.2.1 z.2.2.2) = true ∧ q_p10.length ≤ q_w10.length := by decide +kernel
def q_w11 : List (Nat × Nat × Nat) := [(1555, 0, 0), (1556, 0, 0), (506, 0, 0), (502, 503, 504), (512, 513, 514), (516, 517, 0), (583, 499, 500), (579, 580, 581), (584, 585, 0), (522, 0, 0), (524, 525, 0)]
set_option maxRecDepth 100000 in
theorem q_pok11 : (q_p11.zip q_w11).all (fun z => q_okp 11 z.1.1 z.1.2 z.2.1 z.2.2.1 z.2.2.2) = true ∧ q_p11.length ≤ q_w11.length := by decide +kernel
def q_w12 : List (Nat × Nat × Nat) := [(519, 520, 0), (591, 0, 0), (587, 588, 0), (590, 0, 0), (592, 593, 0)]
set_option maxRecDepth 100000 in
theorem q_pok12 : (q_p12.zip q_w12).all (fun z => q_okp 12 z.1.1 z.1.2 z.2.1 z.2.2.1 z.2.2.2) = true ∧ q_p12.length ≤ q_w12.length := by decide +kernel
def q_w13 : List (Nat × Nat × Nat) := []
set_option maxRecDepth 100000 in
theorem q_pok13 : (q_p13.zip q_w13).all (fun z => q_okp 13 z.1.1 z.1.2 z.2.1 z.2.2.1 z.2.2.2) = true ∧ q_p13.length ≤ q_w13.length := by decide +kernel
def q_w14 : List (Nat × Nat × Nat) := []
set_option maxRecDepth 100000 in
theorem q_pok14 : (q_p14.zip q_w14).all (fun z => q_okp 14 z.1.1 z.1.2 z.2.1 z.2.2.1 z.2.2.2) = true ∧ q_p14.length ≤ q_w14.length := by decide +kernel
def q_w15 : List (Nat × Nat × Nat) := [(98, 99, 79), (100, 101, 0), (929, 930, 90), (931, 932, 0), (382, 383, 384), (1160, 1161, 1162), (396, 397, 398), (1260, 1261, 1262), (449, 450, 451), (1172, 1173, 1174), (453, 454, 455), (1180, 1181, 1182), (457, 458, 459), (1188, 1189, 1190), (461, 462, 463), (1192, 1193, 1194), (469, 470, 471), (1196, 1197, 1198), (640, 641, 642), (1312, 1313, 1314), (649, 650, 651), (1320, 1321, 1322), (664, 665, 666), (1332, 1333, 1334), (678, 679, 680), (1348, 1349, 1350), (686, 687, 688), (1356, 1357, 1358), (701, 702, 703), (1369, 1370, 1371), (706, 707, 708), (1373, 1374, 1375), (716, 717, 718), (1381, 1382, 1383), (736, 737, 738), (1393, 1394, 1395), (740, 741, 742), (1397, 1398, 1399), (744, 745, 746), (1401, 1402, 1403), (765, 766, 767), (1413, 1414, 1415), (777, 778, 779), (1417, 1418, 1419), (781, 782, 783), (1421, 1422, 1423), (790, 791, 792), (1425, 1426, 1427), (794, 795, 796), (1429, 1430, 1431), (802, 803, 804), (1437, 1438, 1439), (814, 815, 816), (1450, 1451, 1452), (818, 819, 820), (1454, 1455, 1456), (822, 823, 824), (1458, 1459, 1460), (826, 827, 828), (1462, 1463, 1464), (830, 831, 832), (1466, 1467, 1468), (834, 835, 836), (1470, 1471, 1472), (845, 846, 847), (1478, 1479, 1480), (858, 859, 860), (1482, 1483, 1484), (862, 863, 864), (1486, 1487, 1488), (881, 882, 883), (1522, 1523, 1524), (885, 886, 887), (1526, 1527, 1528), (893, 894, 895), (1530, 1531, 1532), (897, 898, 899), (1534, 1535, 1536), (1554, 0, 0), (908, 909, 910), (1538, 1539, 1540), (916, 917, 918), (1546, 1547, 1548), (920, 921, 922), (1550, 1551, 1552)]
set_option maxRecDepth 100000 in
theorem q_pok15 : (q_p15.zip q_w15).all (fun z => q_okp 15 z.1.1 z.1.2 z.2.1 z.2.2.1 z.2.2.2) = true ∧ q_p15.length ≤ q_w15.length := by decide +kernel
theorem q_pok_of {o : Nat} {l : List (Nat × q_E)} {w : List (Nat × Nat × Nat)} (h : (l.zip w).all (fun z => q_okp o z.1.1 z.1.2 z.2.1 z.2.2.1 z.2.2.2) = true ∧ l.length ≤ w.length) {i : Nat} {e : q_E} (hm : (l.find? (fun e => e.1 == i)).map (fun e => e.2) = some e) : q_ok o i e := by
  obtain ⟨z, hz, rfl⟩ := Option.map_eq_some_iff.mp hm
  have h1 := List.mem_of_find?_eq_some hz
  have h2 : z.1 = i := by simpa using List.find?_some hz
  subst h2
  obtain ⟨j, hj⟩ := List.getElem?_of_mem h1
  have hjl := (List.getElem?_eq_some_iff.mp hj).1
  have hjw : w[j]? = some (w[j]'(by omega)) := List.getElem?_eq_getElem _
  have h3 : (z, w[j]'(by omega)) ∈ l.zip w := by
    refine List.mem_of_getElem? (i := j) ?_
    rw [List.getElem?_zip_eq_some]
    exact ⟨hj, hjw⟩
  have h4 := List.all_eq_true.mp h.1 _ h3
  exact q_okp_in h4
theorem q_pool_ok (o k : Nat) (e : q_E) (h : q_pool o k = some e) : q_ok o k e := by
  unfold q_pool at h
  match o, h with
  | 0, h => exact q_pok_of q_pok0 h
  | 1, h => exact q_pok_of q_pok1 h
  | 2, h => exact q_pok_of q_pok2 h
  | 3, h => exact q_pok_of q_pok3 h
  | 4, h => exact q_pok_of q_pok4 h
  | 5, h => exact q_pok_of q_pok5 h
  | 6, h => exact q_pok_of q_pok6 h
  | 7, h => exact q_pok_of q_pok7 h
  | 8, h => exact q_pok_of q_pok8 h
  | 9, h => exact q_pok_of q_pok9 h
  | 10, h => exact q_pok_of q_pok10 h
  | 11, h => exact q_pok_of q_pok11 h
  | 12, h => exact q_pok_of q_pok12 h
  | 13, h => exact q_pok_of q_pok13 h
  | 14, h => exact q_pok_of q_pok14 h
  | 15, h => exact q_pok_of q_pok15 h
  | o + 16, h =>
    rw [List.getD_eq_getElem?_getD, List.getElem?_eq_none (by simp [q_poolL])] at h
    cases h
def q_dt (y : Nat) (l : List (Nat × Instr × Nat)) : Bool := l.all (fun e => decide (decode (q_mc y) e.1 = .ok e.2) && (decide (q_ln e.2.1 = 0) || decide (q_ln e.2.1 = e.2.2)))
theorem q_dt_of {y : Nat} {l : List (Nat × Instr × Nat)} (h : q_dt y l = true) {pc : Nat} {i : Instr × Nat} (hm : (l.find? (fun e => e.1 == pc)).map (fun e => e.2) = some i) : decode (q_mc y) pc = .ok i ∧ (q_ln i.1 = 0 ∨ q_ln i.1 = i.2) := by
  obtain ⟨z, hz, rfl⟩ := Option.map_eq_some_iff.mp hm
  have h1 := List.mem_of_find?_eq_some hz
  have h2 : z.1 = pc := by simpa using List.find?_some hz
  subst h2
  have h4 := List.all_eq_true.mp h _ h1
  simp only [Bool.and_eq_true, Bool.or_eq_true, decide_eq_true_eq] at h4
  exact h4
set_option maxRecDepth 100000 in
theorem q_dt0 : q_dt 0 q_t0 = true := by decide +kernel
set_option maxRecDepth 100000 in
theorem q_dt1 : q_dt 1 q_t1 = true := by decide +kernel
set_option maxRecDepth 100000 in
theorem q_dt2 : q_dt 2 q_t2 = true := by decide +kernel
set_option maxRecDepth 100000 in
theorem q_dt3 : q_dt 3 q_t3 = true := by decide +kernel
set_option maxRecDepth 100000 in
theorem q_dt4 : q_dt 4 q_t4 = true := by decide +kernel
set_option maxRecDepth 100000 in
theorem q_dt5 : q_dt 5 q_t5 = true := by decide +kernel
set_option maxRecDepth 100000 in
theorem q_dt6 : q_dt 6 q_t6 = true := by decide +kernel
set_option maxRecDepth 100000 in
theorem q_dt7 : q_dt 7 q_t7 = true := by decide +kernel
set_option maxRecDepth 100000 in
theorem q_dt8 : q_dt 8 q_t8 = true := by decide +kernel
set_option maxRecDepth 100000 in
theorem q_dt9 : q_dt 9 q_t9 = true := by decide +kernel
set_option maxRecDepth 100000 in
theorem q_dt10 : q_dt 10 q_t10 = true := by decide +kernel
set_option maxRecDepth 100000 in
theorem q_dt11 : q_dt 11 q_t11 = true := by decide +kernel
set_option maxRecDepth 100000 in
theorem q_dt12 : q_dt 12 q_t12 = true := by decide +kernel
set_option maxRecDepth 100000 in
theorem q_dt13 : q_dt 13 q_t13 = true := by decide +kernel
set_option maxRecDepth 100000 in
theorem q_dt14 : q_dt 14 q_t14 = true := by decide +kernel
set_option maxRecDepth 100000 in
theorem q_dt15 : q_dt 15 q_t15 = true := by decide +kernel
set_option maxRecDepth 100000 in
theorem q_dt16 : q_dt 16 q_t16 = true := by decide +kernel
set_option maxRecDepth 100000 in
theorem q_dt17 : q_dt 17 q_t17 = true := by decide +kernel
set_option maxRecDepth 100000 in
theorem q_dt18 : q_dt 18 q_t18 = true := by decide +kernel
set_option maxRecDepth 100000 in
theorem q_dt19 : q_dt 19 q_t19 = true := by decide +kernel
set_option maxRecDepth 100000 in
theorem q_dt20 : q_dt 20 q_t20 = true := by decide +kernel
set_option maxRecDepth 100000 in
theorem q_dt21 : q_dt 21 q_t21 = true := by decide +kernel
set_option maxRecDepth 100000 in
theorem q_dt22 : q_dt 22 q_t22 = true := by decide +kernel
set_option maxRecDepth 100000 in
theorem q_dt23 : q_dt 23 q_t23 = true := by decide +kernel
set_option maxRecDepth 100000 in
theorem q_dt24 : q_dt 24 q_t24 = true := by decide +kernel
set_option maxRecDepth 100000 in
theorem q_dt25 : q_dt 25 q_t25 = true := by decide +kernel
set_option maxRecDepth 100000 in
theorem q_dt26 : q_dt 26 q_t26 = true := by decide +kernel
set_option maxRecDepth 100000 in
theorem q_dt27 : q_dt 27 q_t27 = true := by decide +kernel
set_option maxRecDepth 100000 in
theorem q_dt28 : q_dt 28 q_t28 = true := by decide +kernel
set_option maxRecDepth 100000 in
theorem q_dt29 : q_dt 29 q_t29 = true := by decide +kernel
set_option maxRecDepth 100000 in
theorem q_dt30 : q_dt 30 q_t30 = true := by decide +kernel
set_option maxRecDepth 100000 in
theorem q_dt31 : q_dt 31 q_t31 = true := by decide +kernel
set_option maxRecDepth 100000 in
theorem q_dt32 : q_dt 32 q_t32 = true := by decide +kernel
set_option maxRecDepth 100000 in
theorem q_dt33 : q_dt 33 q_t33 = true := by decide +kernel
set_option maxRecDepth 100000 in
theorem q_dt34 : q_dt 34 q_t34 = true := by decide +kernel
set_option maxRecDepth 100000 in
theorem q_dt35 : q_dt 35 q_t35 = true := by decide +kernel
set_option maxRecDepth 100000 in
theorem q_dt36 : q_dt 36 q_t36 = true := by decide +kernel
set_option maxRecDepth 100000 in
theorem q_dt37 : q_dt 37 q_t37 = true := by decide +kernel
set_option maxRecDepth 100000 in
theorem q_dt38 : q_dt 38 q_t38 = true := by decide +kernel
set_option maxRecDepth 100000 in
theorem q_dt39 : q_dt 39 q_t39 = true := by decide +kernel
set_option maxRecDepth 100000 in
theorem q_dt40 : q_dt 40 q_t40 = true := by decide +kernel
set_option maxRecDepth 100000 in
theorem q_dt41 : q_dt 41 q_t41 = true := by decide +kernel
set_option maxRecDepth 100000 in
theorem q_dt42 : q_dt 42 q_t42 = true := by decide +kernel
set_option maxRecDepth 100000 in
theorem q_dt43 : q_dt 43 q_t43 = true := by decide +kernel
set_option maxRecDepth 100000 in
theorem q_dt44 : q_dt 44 q_t44 = true := by decide +kernel
set_option maxRecDepth 100000 in
theorem q_dt45 : q_dt 45 q_t45 = true := by decide +kernel
set_option maxRecDepth 100000 in
theorem q_dt46 : q_dt 46 q_t46 = true := by decide +kernel
set_option maxRecDepth 100000 in
theorem q_dt47 : q_dt 47 q_t47 = true := by decide +kernel
set_option maxRecDepth 100000 in
theorem q_dt48 : q_dt 48 q_t48 = true := by decide +kernel
set_option maxRecDepth 100000 in
theorem q_dt49 : q_dt 49 q_t49 = true := by decide +kernel
set_option maxRecDepth 100000 in
theorem q_dt50 : q_dt 50 q_t50 = true := by decide +kernel
set_option maxRecDepth 100000 in
theorem q_dt51 : q_dt 51 q_t51 = true := by decide +kernel
set_option maxRecDepth 100000 in
theorem q_dt52 : q_dt 52 q_t52 = true := by decide +kernel
set_option maxRecDepth 100000 in
theorem q_dt53 : q_dt 53 q_t53 = true := by decide +kernel
set_option maxRecDepth 100000 in
theorem q_dt54 : q_dt 54 q_t54 = true := by decide +kernel
set_option maxRecDepth 100000 in
theorem q_dt55 : q_dt 55 q_t55 = true := by decide +kernel
set_option maxRecDepth 100000 in
theorem q_dt56 : q_dt 56 q_t56 = true := by decide +kernel
set_option maxRecDepth 100000 in
theorem q_dt57 : q_dt 57 q_t57 = true := by decide +kernel
set_option maxRecDepth 100000 in
theorem q_dt58 : q_dt 58 q_t58 = true := by decide +kernel
set_option maxRecDepth 100000 in
theorem q_dt59 : q_dt 59 q_t59 = true := by decide +kernel
set_option maxRecDepth 100000 in
theorem q_dt60 : q_dt 60 q_t60 = true := by decide +kernel
set_option maxRecDepth 100000 in
theorem q_dt61 : q_dt 61 q_t61 = true := by decide +kernel
set_option maxRecDepth 100000 in
theorem q_dt62 : q_dt 62 q_t62 = true := by decide +kernel
set_option maxRecDepth 100000 in
theorem q_dt63 : q_dt 63 q_t63 = true := by decide +kernel
set_option maxRecDepth 100000 in
theorem q_dt64 : q_dt 64 q_t64 = true := by decide +kernel
set_option maxRecDepth 100000 in
theorem q_dt65 : q_dt 65 q_t65 = true := by decide +kernel
set_option maxRecDepth 100000 in
theorem q_dt66 : q_dt 66 q_t66 = true := by decide +kernel
set_option maxRecDepth 100000 in
theorem q_dt67 : q_dt 67 q_t67 = true := by decide +kernel
set_option maxRecDepth 100000 in
theorem q_dt68 : q_dt 68 q_t68 = true := by decide +kernel
set_option maxRecDepth 100000 in
theorem q_dt69 : q_dt 69 q_t69 = true := by decide +kernel
set_option maxRecDepth 100000 in
theorem q_dt70 : q_dt 70 q_t70 = true := by decide +kernel
set_option maxRecDepth 100000 in
theorem q_dt71 : q_dt 71 q_t71 = true := by decide +kernel
set_option maxRecDepth 100000 in
theorem q_dt72 : q_dt 72 q_t72 = true := by decide +kernel
set_option maxRecDepth 100000 in
theorem q_dt73 : q_dt 73 q_t73 = true := by decide +kernel
set_option maxRecDepth 100000 in
theorem q_dt74 : q_dt 74 q_t74 = true := by decide +kernel
set_option maxRecDepth 100000 in
theorem q_dt75 : q_dt 75 q_t75 = true := by decide +kernel
set_option maxRecDepth 100000 in
theorem q_dt76 : q_dt 76 q_t76 = true := by decide +kernel
set_option maxRecDepth 100000 in
theorem q_dt77 : q_dt 77 q_t77 = true := by decide +kernel
set_option maxRecDepth 100000 in
theorem q_dt78 : q_dt 78 q_t78 = true := by decide +kernel
set_option maxRecDepth 100000 in
theorem q_dt79 : q_dt 79 q_t79 = true := by decide +kernel
set_option maxRecDepth 100000 in
theorem q_dt80 : q_dt 80 q_t80 = true := by decide +kernel
set_option maxRecDepth 100000 in
theorem q_dt81 : q_dt 81 q_t81 = true := by decide +kernel
set_option maxRecDepth 100000 in
theorem q_dt82 : q_dt 82 q_t82 = true := by decide +kernel
set_option maxRecDepth 100000 in
theorem q_dt83 : q_dt 83 q_t83 = true := by decide +kernel
set_option maxRecDepth 100000 in
theorem q_dt84 : q_dt 84 q_t84 = true := by decide +kernel
set_option maxRecDepth 100000 in
theorem q_dt85 : q_dt 85 q_t85 = true := by decide +kernel
set_option maxRecDepth 100000 in
theorem q_dt86 : q_dt 86 q_t86 = true := by decide +kernel
set_option maxRecDepth 100000 in
theorem q_dt87 : q_dt 87 q_t87 = true := by decide +kernel
set_option maxRecDepth 100000 in
theorem q_dt88 : q_dt 88 q_t88 = true := by decide +kernel
set_option maxRecDepth 100000 in
theorem q_dt89 : q_dt 89 q_t89 = true := by decide +kernel
set_option maxRecDepth 100000 in
theorem q_dt90 : q_dt 90 q_t90 = true := by decide +kernel
set_option maxRecDepth 100000 in
theorem q_dt91 : q_dt 91 q_t91 = true := by decide +kernel
set_option maxRecDepth 100000 in
theorem q_dt92 : q_dt 92 q_t92 = true := by decide +kernel
set_option maxRecDepth 100000 in
theorem q_dt93 : q_dt 93 q_t93 = true := by decide +kernel
set_option maxRecDepth 100000 in
theorem q_dt94 : q_dt 94 q_t94 = true := by decide +kernel
set_option maxRecDepth 100000 in
theorem q_dt95 : q_dt 95 q_t95 = true := by decide +kernel
set_option maxRecDepth 100000 in
theorem q_dt96 : q_dt 96 q_t96 = true := by decide +kernel
set_option maxRecDepth 100000 in
theorem q_dt97 : q_dt 97 q_t97 = true := by decide +kernel
set_option maxRecDepth 100000 in
theorem q_dt98 : q_dt 98 q_t98 = true := by decide +kernel
set_option maxRecDepth 100000 in
theorem q_dt99 : q_dt 99 q_t99 = true := by decide +kernel
set_option maxRecDepth 100000 in
theorem q_dt100 : q_dt 100 q_t100 = true := by decide +kernel
set_option maxRecDepth 100000 in
theorem q_dt101 : q_dt 101 q_t101 = true := by decide +kernel
set_option maxRecDepth 100000 in
theorem q_dt102 : q_dt 102 q_t102 = true := by decide +kernel
set_option maxRecDepth 100000 in
theorem q_dt103 : q_dt 103 q_t103 = true := by decide +kernel
set_option maxRecDepth 100000 in
theorem q_dt104 : q_dt 104 q_t104 = true := by decide +kernel
set_option maxRecDepth 100000 in
theorem q_dt105 : q_dt 105 q_t105 = true := by decide +kernel
set_option maxRecDepth 100000 in
theorem q_dt106 : q_dt 106 q_t106 = true := by decide +kernel
set_option maxRecDepth 100000 in
theorem q_dt107 : q_dt 107 q_t107 = true := by decide +kernel
set_option maxRecDepth 100000 in
theorem q_dt108 : q_dt 108 q_t108 = true := by decide +kernel
set_option maxRecDepth 100000 in
theorem q_dt109 : q_dt 109 q_t109 = true := by decide +kernel
set_option maxRecDepth 100000 in
theorem q_dt110 : q_dt 110 q_t110 = true := by decide +kernel
set_option maxRecDepth 100000 in
theorem q_dt111 : q_dt 111 q_t111 = true := by decide +kernel
set_option maxRecDepth 100000 in
theorem q_dt112 : q_dt 112 q_t112 = true := by decide +kernel
set_option maxRecDepth 100000 in
theorem q_dt113 : q_dt 113 q_t113 = true := by decide +kernel
set_option maxRecDepth 100000 in
theorem q_dt114 : q_dt 114 q_t114 = true := by decide +kernel
set_option maxRecDepth 100000 in
theorem q_dt115 : q_dt 115 q_t115 = true := by decide +kernel
set_option maxRecDepth 100000 in
theorem q_dt116 : q_dt 116 q_t116 = true := by decide +kernel
set_option maxRecDepth 100000 in
theorem q_dt117 : q_dt 117 q_t117 = true := by decide +kernel
set_option maxRecDepth 100000 in
theorem q_dt118 : q_dt 118 q_t118 = true := by decide +kernel
set_option maxRecDepth 100000 in
theorem q_dt119 : q_dt 119 q_t119 = true := by decide +kernel
set_option maxRecDepth 100000 in
theorem q_dt120 : q_dt 120 q_t120 = true := by decide +kernel
set_option maxRecDepth 100000 in
theorem q_dt121 : q_dt 121 q_t121 = true := by decide +kernel
set_option maxRecDepth 100000 in
theorem q_dt122 : q_dt 122 q_t122 = true := by decide +kernel
set_option maxRecDepth 100000 in
theorem q_dt123 : q_dt 123 q_t123 = true := by decide +kernel
set_option maxRecDepth 100000 in
theorem q_dt124 : q_dt 124 q_t124 = true := by decide +kernel
set_option maxRecDepth 100000 in
theorem q_dt125 : q_dt 125 q_t125 = true := by decide +kernel
set_option maxRecDepth 100000 in
theorem q_dt126 : q_dt 126 q_t126 = true := by decide +kernel
set_option maxRecDepth 100000 in
theorem q_dt127 : q_dt 127 q_t127 = true := by decide +kernel
set_option maxRecDepth 100000 in
theorem q_dt128 : q_dt 128 q_t128 = true := by decide +kernel
set_option maxRecDepth 100000 in
theorem q_dt129 : q_dt 129 q_t129 = true := by decide +kernel
set_option maxRecDepth 100000 in
theorem q_dt130 : q_dt 130 q_t130 = true := by decide +kernel
set_option maxRecDepth 100000 in
theorem q_dt131 : q_dt 131 q_t131 = true := by decide +kernel
set_option maxRecDepth 100000 in
theorem q_dt132 : q_dt 132 q_t132 = true := by decide +kernel
set_option maxRecDepth 100000 in
theorem q_dt133 : q_dt 133 q_t133 = true := by decide +kernel
set_option maxRecDepth 100000 in
theorem q_dt134 : q_dt 134 q_t134 = true := by decide +kernel
set_option maxRecDepth 100000 in
theorem q_dt135 : q_dt 135 q_t135 = true := by decide +kernel
set_option maxRecDepth 100000 in
theorem q_dt136 : q_dt 136 q_t136 = true := by decide +kernel
set_option maxRecDepth 100000 in
theorem q_dt137 : q_dt 137 q_t137 = true := by decide +kernel
set_option maxRecDepth 100000 in
theorem q_dt138 : q_dt 138 q_t138 = true := by decide +kernel
set_option maxRecDepth 100000 in
theorem q_dt139 : q_dt 139 q_t139 = true := by decide +kernel
set_option maxRecDepth 100000 in
theorem q_dt140 : q_dt 140 q_t140 = true := by decide +kernel
set_option maxRecDepth 100000 in
theorem q_dt141 : q_dt 141 q_t141 = true := by decide +kernel
set_option maxRecDepth 100000 in
theorem q_dt142 : q_dt 142 q_t142 = true := by decide +kernel
set_option maxRecDepth 100000 in
theorem q_dt143 : q_dt 143 q_t143 = true := by decide +kernel
set_option maxRecDepth 100000 in
theorem q_dt144 : q_dt 144 q_t144 = true := by decide +kernel
set_option maxRecDepth 100000 in
theorem q_dt145 : q_dt 145 q_t145 = true := by decide +kernel
set_option maxRecDepth 100000 in
theorem q_dt146 : q_dt 146 q_t146 = true := by decide +kernel
set_option maxRecDepth 100000 in
theorem q_dt147 : q_dt 147 q_t147 = true := by decide +kernel
set_option maxRecDepth 100000 in
theorem q_dt148 : q_dt 148 q_t148 = true := by decide +kernel
set_option maxRecDepth 100000 in
theorem q_dt149 : q_dt 149 q_t149 = true := by decide +kernel
set_option maxRecDepth 100000 in
theorem q_dt150 : q_dt 150 q_t150 = true := by decide +kernel
set_option maxRecDepth 100000 in
theorem q_dt151 : q_dt 151 q_t151 = true := by decide +kernel
set_option maxRecDepth 100000 in
theorem q_dt152 : q_dt 152 q_t152 = true := by decide +kernel
set_option maxRecDepth 100000 in
theorem q_dt153 : q_dt 153 q_t153 = true := by decide +kernel
set_option maxRecDepth 100000 in
theorem q_dt154 : q_dt 154 q_t154 = true := by decide +kernel
set_option maxRecDepth 100000 in
theorem q_dt155 : q_dt 155 q_t155 = true := by decide +kernel
set_option maxRecDepth 100000 in
theorem q_dt156 : q_dt 156 q_t156 = true := by decide +kernel
set_option maxRecDepth 100000 in
theorem q_dt157 : q_dt 157 q_t157 = true := by decide +kernel
set_option maxRecDepth 100000 in
theorem q_dt158 : q_dt 158 q_t158 = true := by decide +kernel
set_option maxRecDepth 100000 in
theorem q_dt159 : q_dt 159 q_t159 = true := by decide +kernel
set_option maxRecDepth 100000 in
theorem q_dt160 : q_dt 160 q_t160 = true := by decide +kernel
set_option maxRecDepth 100000 in
theorem q_dt161 : q_dt 161 q_t161 = true := by decide +kernel
set_option maxRecDepth 100000 in
theorem q_dt162 : q_dt 162 q_t162 = true := by decide +kernel
set_option maxRecDepth 100000 in
theorem q_dt163 : q_dt 163 q_t163 = true := by decide +kernel
set_option maxRecDepth 100000 in
theorem q_dt164 : q_dt 164 q_t164 = true := by decide +kernel
set_option maxRecDepth 100000 in
theorem q_dt165 : q_dt 165 q_t165 = true := by decide +kernel
set_option maxRecDepth 100000 in
theorem q_dt166 : q_dt 166 q_t166 = true := by decide +kernel
set_option maxRecDepth 100000 in
theorem q_dt167 : q_dt 167 q_t167 = true := by decide +kernel
set_option maxRecDepth 100000 in
theorem q_dt168 : q_dt 168 q_t168 = true := by decide +kernel
set_option maxRecDepth 100000 in
theorem q_dt169 : q_dt 169 q_t169 = true := by decide +kernel
set_option maxRecDepth 100000 in
theorem q_dt170 : q_dt 170 q_t170 = true := by decide +kernel
set_option maxRecDepth 100000 in
theorem q_dt171 : q_dt 171 q_t171 = true := by decide +kernel
set_option maxRecDepth 100000 in
theorem q_dt172 : q_dt 172 q_t172 = true := by decide +kernel
set_option maxRecDepth 100000 in
theorem q_dt173 : q_dt 173 q_t173 = true := by decide +kernel
set_option maxRecDepth 100000 in
theorem q_dt174 : q_dt 174 q_t174 = true := by decide +kernel
set_option maxRecDepth 100000 in
theorem q_dt175 : q_dt 175 q_t175 = true := by decide +kernel
set_option maxRecDepth 100000 in
theorem q_dt176 : q_dt 176 q_t176 = true := by decide +kernel
set_option maxRecDepth 100000 in
theorem q_dt177 : q_dt 177 q_t177 = true := by decide +kernel
set_option maxRecDepth 100000 in
theorem q_dt178 : q_dt 178 q_t178 = true := by decide +kernel
set_option maxRecDepth 100000 in
theorem q_dt179 : q_dt 179 q_t179 = true := by decide +kernel
set_option maxRecDepth 100000 in
theorem q_dt180 : q_dt 180 q_t180 = true := by decide +kernel
set_option maxRecDepth 100000 in
theorem q_dt181 : q_dt 181 q_t181 = true := by decide +kernel
set_option maxRecDepth 100000 in
theorem q_dt182 : q_dt 182 q_t182 = true := by decide +kernel
set_option maxRecDepth 100000 in
theorem q_dt183 : q_dt 183 q_t183 = true := by decide +kernel
set_option maxRecDepth 100000 in
theorem q_dt184 : q_dt 184 q_t184 = true := by decide +kernel
set_option maxRecDepth 100000 in
theorem q_dt185 : q_dt 185 q_t185 = true := by decide +kernel
set_option maxRecDepth 100000 in
theorem q_dt186 : q_dt 186 q_t186 = true := by decide +kernel
set_option maxRecDepth 100000 in
theorem q_dt187 : q_dt 187 q_t187 = true := by decide +kernel
set_option maxRecDepth 100000 in
theorem q_dt188 : q_dt 188 q_t188 = true := by decide +kernel
set_option maxRecDepth 100000 in
theorem q_dt189 : q_dt 189 q_t189 = true := by decide +kernel
set_option maxRecDepth 100000 in
theorem q_dt190 : q_dt 190 q_t190 = true := by decide +kernel
set_option maxRecDepth 100000 in
theorem q_dt191 : q_dt 191 q_t191 = true := by decide +kernel
set_option maxRecDepth 100000 in
theorem q_dt192 : q_dt 192 q_t192 = true := by decide +kernel
set_option maxRecDepth 100000 in
theorem q_dt193 : q_dt 193 q_t193 = true := by decide +kernel
set_option maxRecDepth 100000 in
theorem q_dt194 : q_dt 194 q_t194 = true := by decide +kernel
set_option maxRecDepth 100000 in
theorem q_dt195 : q_dt 195 q_t195 = true := by decide +kernel
set_option maxRecDepth 100000 in
theorem q_dt196 : q_dt 196 q_t196 = true := by decide +kernel
set_option maxRecDepth 100000 in
theorem q_dt197 : q_dt 197 q_t197 = true := by decide +kernel
set_option maxRecDepth 100000 in
theorem q_dt198 : q_dt 198 q_t198 = true := by decide +kernel
set_option maxRecDepth 100000 in
theorem q_dt199 : q_dt 199 q_t199 = true := by decide +kernel
set_option maxRecDepth 100000 in
theorem q_dt200 : q_dt 200 q_t200 = true := by decide +kernel
set_option maxRecDepth 100000 in
theorem q_dt201 : q_dt 201 q_t201 = true := by decide +kernel
set_option maxRecDepth 100000 in
theorem q_dt202 : q_dt 202 q_t202 = true := by decide +kernel
set_option maxRecDepth 100000 in
theorem q_dt203 : q_dt 203 q_t203 = true := by decide +kernel
set_option maxRecDepth 100000 in
theorem q_dt204 : q_dt 204 q_t204 = true := by decide +kernel
set_option maxRecDepth 100000 in
theorem q_dt205 : q_dt 205 q_t205 = true := by decide +kernel
set_option maxRecDepth 100000 in
theorem q_dt206 : q_dt 206 q_t206 = true := by decide +kernel
set_option maxRecDepth 100000 in
theorem q_dt207 : q_dt 207 q_t207 = true := by decide +kernel
set_option maxRecDepth 100000 in
theorem q_dt208 : q_dt 208 q_t208 = true := by decide +kernel
set_option maxRecDepth 100000 in
theorem q_dt209 : q_dt 209 q_t209 = true := by decide +kernel
set_option maxRecDepth 100000 in
theorem q_dt210 : q_dt 210 q_t210 = true := by decide +kernel
set_option maxRecDepth 100000 in
theorem q_dt211 : q_dt 211 q_t211 = true := by decide +kernel
set_option maxRecDepth 100000 in
theorem q_dt212 : q_dt 212 q_t212 = true := by decide +kernel
set_option maxRecDepth 100000 in
theorem q_dt213 : q_dt 213 q_t213 = true := by decide +kernel
set_option maxRecDepth 100000 in
theorem q_dt214 : q_dt 214 q_t214 = true := by decide +kernel
set_option maxRecDepth 100000 in
theorem q_dt215 : q_dt 215 q_t215 = true := by decide +kernel
set_option maxRecDepth 100000 in
theorem q_dt216 : q_dt 216 q_t216 = true := by decide +kernel
set_option maxRecDepth 100000 in
theorem q_dt217 : q_dt 217 q_t217 = true := by decide +kernel
set_option maxRecDepth 100000 in
theorem q_dt218 : q_dt 218 q_t218 = true := by decide +kernel
set_option maxRecDepth 100000 in
theorem q_dt219 : q_dt 219 q_t219 = true := by decide +kernel
set_option maxRecDepth 100000 in
theorem q_dt220 : q_dt 220 q_t220 = true := by decide +kernel
set_option maxRecDepth 100000 in
theorem q_dt221 : q_dt 221 q_t221 = true := by decide +kernel
set_option maxRecDepth 100000 in
theorem q_dt223 : q_dt 223 q_t223 = true := by decide +kernel
