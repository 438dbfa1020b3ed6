/-! THE START: the constants, out of the premises (written by wip/whole/gen_start.py) -/
def opn : List String := ["SETVL", "IOTA", "FILL", "LOAD", "STORE", "GATHER", "SCATTER", "ADD", "SUB", "MUL", "DIV", "REM", "MIN", "MAX", "COPY", "SINGLE", "WHOLE", "LESS", "SAME", "ODD", "FLIP", "PACK", "COUNT", "FOLD", "TOP", "STRIP", "STOP", "END"]
/-- of each constant of the enum: its place among the premises, its text and its form (places in stl), unit, ways -/
def opd : List (Nat × Nat × Nat × Int32 × Int32) := [(128, 18, 19, -1, 0), (135, 20, 15, 3, 2), (141, 21, 22, 3, 258), (147, 23, 24, 0, 66), (153, 25, 24, 0, 129), (159, 26, 27, 0, 74), (165, 28, 27, 0, 137), (171, 29, 30, 3, 14), (177, 31, 30, 3, 14), (183, 32, 30, 1, 14), (189, 33, 30, 2, 14), (195, 34, 30, 2, 14), (201, 35, 30, 3, 14), (207, 36, 30, 3, 14), (213, 37, 38, 3, 6), (219, 39, 38, 3, 6), (225, 40, 38, 3, 6), (116, 16, 10, 3, 37), (231, 41, 10, 3, 37), (110, 14, 15, 3, 33), (237, 42, 6, -1, 48), (61, 9, 10, 3, 22), (243, 43, 44, -1, 528), (67, 11, 12, -1, 513), (73, 13, 12, -1, 513), (55, 7, 8, -1, 0), (122, 17, 6, -1, 0), (49, 5, 6, -1, 0)]
/-- the String constants: class, entry, place among the premises, bytes -/
def stl : List (String × Nat × Nat × List Int32) := [("VectorPipes$Parser", 22, 301, []), ("VectorPipes$Parser", 115, 305, [109, 97, 115, 107, 101, 100]), ("VectorPipes$Parser", 124, 315, [97, 116]), ("VectorPipes$Parser", 126, 321, [98, 121]), ("VectorPipes$Parser", 128, 327, [111, 102]), ("VectorPipes$Op", 236, 333, [101, 110, 100]), ("VectorPipes$Op", 209, 340, [59]), ("VectorPipes$Op", 228, 345, [115, 116, 114, 105, 112]), ("VectorPipes$Op", 230, 354, [110, 59]), ("VectorPipes$Op", 212, 360, [112, 97, 99, 107]), ("VectorPipes$Op", 198, 368, [100, 97, 59]), ("VectorPipes$Op", 220, 375, [102, 111, 108, 100]), ("VectorPipes$Op", 222, 383, [115, 100, 59]), ("VectorPipes$Op", 225, 390, [116, 111, 112]), ("VectorPipes$Op", 204, 397, [111, 100, 100]), ("VectorPipes$Op", 138, 404, [100, 59]), ("VectorPipes$Op", 196, 410, [108, 101, 115, 115]), ("VectorPipes$Op", 233, 418, [115, 116, 111, 112]), ("VectorPipes$Op", 128, 426, [115, 101, 116, 118, 108]), ("VectorPipes$Op", 130, 435, [118, 59]), ("VectorPipes$Op", 136, 441, [105, 111, 116, 97]), ("VectorPipes$Op", 141, 449, [102, 105, 108, 108]), ("VectorPipes$Op", 143, 457, [100, 115, 59]), ("VectorPipes$Op", 146, 464, [108, 111, 97, 100]), ("VectorPipes$Op", 148, 472, [100, 64, 112, 42, 121, 59]), ("VectorPipes$Op", 151, 482, [115, 116, 111, 114, 101]), ("VectorPipes$Op", 154, 491, [103, 97, 116, 104, 101, 114]), ("VectorPipes$Op", 156, 501, [100, 64, 112, 102, 98, 59]), ("VectorPipes$Op", 159, 511, [115, 99, 97, 116, 116, 101, 114]), ("VectorPipes$Op", 162, 522, [97, 100, 100]), ("VectorPipes$Op", 164, 529, [100, 97, 98, 109, 59]), ("VectorPipes$Op", 167, 538, [115, 117, 98]), ("VectorPipes$Op", 170, 545, [109, 117, 108]), ("VectorPipes$Op", 173, 552, [100, 105, 118]), ("VectorPipes$Op", 176, 559, [114, 101, 109]), ("VectorPipes$Op", 179, 566, [109, 105, 110]), ("VectorPipes$Op", 182, 573, [109, 97, 120]), ("VectorPipes$Op", 185, 580, [99, 111, 112, 121]), ("VectorPipes$Op", 187, 588, [100, 97, 109, 59]), ("VectorPipes$Op", 190, 596, [115, 105, 110, 103, 108, 101]), ("VectorPipes$Op", 193, 606, [119, 104, 111, 108, 101]), ("VectorPipes$Op", 201, 615, [115, 97, 109, 101]), ("VectorPipes$Op", 207, 623, [102, 108, 105, 112]), ("VectorPipes$Op", 215, 631, [99, 111, 117, 110, 116]), ("VectorPipes$Op", 217, 640, [115, 59])]
def prem : List Cond := flatC (Jvm.Cond.and given_1 narrow_1)
def opT (k : Nat) : Term := .static RX5 (opn.getD k "") "LVectorPipes$Op;"
def stD (i : Nat) : String × Nat × Nat × List Int32 := stl.getD i ("", 0, 0, [])
def opD (k : Nat) : Nat × Nat × Nat × Int32 × Int32 := opd.getD k (0, 0, 0, 0, 0)
def stT (i : Nat) : Term := .string (stD i).1 (stD i).2.1
def stV (i : Nat) : Term := .field (stT i) "java/lang/String" "value" "[B"
def opC (k : Nat) : List Cond := [.exactly (opT k) RX5, .eq (.field (opT k) "java/lang/Enum" "ordinal" "I") (.int (Int32.ofNat k)), .eq (.field (opT k) RX5 "called" "Ljava/lang/String;") (stT (opD k).2.1), .eq (.field (opT k) RX5 "form" "Ljava/lang/String;") (stT (opD k).2.2.1), .eq (.field (opT k) RX5 "unit" "I") (.int (opD k).2.2.2.1), .eq (.field (opT k) RX5 "ways" "I") (.int (opD k).2.2.2.2)]
def stC (i : Nat) : List Cond := [.exactly (stT i) "java/lang/String", .eq (.field (stT i) "java/lang/String" "coder" "B") (.int 0), .arrayOf (stV i) .byte, .eq (.length (stV i)) (.int (Int32.ofNat (stD i).2.2.2.length))]
def stE (i j : Nat) : Cond := .eq (.elem (stV i) (.int (Int32.ofNat j))) (.int ((stD i).2.2.2.getD j 0))
set_option maxRecDepth 100000 in
theorem op_ok : ∀ k, k < 28 → ∀ j, j < 6 → prem[(opD k).1 + j]? = (opC k)[j]? := by decide +kernel
set_option maxRecDepth 100000 in
theorem st_ok : ∀ i, i < 45 → ∀ j, j < 4 → prem[(stD i).2.2.1 + j]? = (stC i)[j]? := by decide +kernel
set_option maxRecDepth 100000 in
theorem st_el : ∀ i, i < 45 → ∀ j, j < (stD i).2.2.2.length → prem[(stD i).2.2.1 + 4 + j]? = some (stE i j) := by decide +kernel
theorem st_len : ∀ i, i < 45 → (stD i).2.2.2.length < 2 ^ 31 := by decide +kernel
theorem op_cf : ∀ k, k < 28 → (opD k).2.1 < 45 ∧ (opD k).2.2.1 < 45 := by decide +kernel
def latV : List Int32 := [5, 4, 7, 3]
def swV : List Int32 := [1, 6, 7, 8, 0, 9, 0, 10, 11, 12, 13, 14, 15, 16, 0, 17, 18, 0, 0, 0, 2, 0, 3, 4, 5, 0, 0, 0]
set_option maxRecDepth 100000 in
theorem lat_ok : prem[5]? = some (.arrayOf (.static RX12 "LATENCY" "[I") .int) ∧ prem[6]? = some (.eq (.length (.static RX12 "LATENCY" "[I")) (.int 4)) ∧ ∀ j, j < 4 → prem[7 + j]? = some (.eq (.elem (.static RX12 "LATENCY" "[I") (.int (Int32.ofNat j))) (.int (latV.getD j 0))) := by decide +kernel
set_option maxRecDepth 100000 in
theorem sw_ok : prem[80]? = some (.arrayOf (.static "VectorPipes$1" "$SwitchMap$VectorPipes$Op" "[I") .int) ∧ prem[81]? = some (.eq (.length (.static "VectorPipes$1" "$SwitchMap$VectorPipes$Op" "[I")) (.int 28)) ∧ ∀ j, j < 28 → prem[82 + j]? = some (.eq (.elem (.static "VectorPipes$1" "$SwitchMap$VectorPipes$Op" "[I") (.int (Int32.ofNat j))) (.int (swV.getD j 0))) := by decide +kernel
set_option maxRecDepth 100000 in
theorem ops_ok : prem[18]? = some (.arrayOf (.static RX12 "OPS" "[LVectorPipes$Op;") (.object RX5)) ∧ prem[19]? = some (.eq (.length (.static RX12 "OPS" "[LVectorPipes$Op;")) (.int 28)) ∧ ∀ j, j < 28 → prem[21 + j]? = some (.eq (.elem (.static RX12 "OPS" "[LVectorPipes$Op;") (.int (Int32.ofNat j))) (opT j)) := by decide +kernel
set_option maxRecDepth 100000 in
theorem misc_ok : prem[134]? = some (.eq (.static "java/lang/Math" "negativeZeroDoubleBits" "J") (.long (-9223372036854775808))) ∧ prem[11]? = some (.eq (.static "java/lang/String" "COMPACT_STRINGS" "Z") (.int 1)) ∧ prem[12]? = some (.isRef (.static "jdk/internal/util/Preconditions" "SIOOBE_FORMATTER" "Ljava/util/function/BiFunction;")) := by decide +kernel
def layW : List Nat := [420, 748, 1030, 2002, 673, 1346, 2185, 2186, 2187, 2188, 2189, 2190, 2191, 2192, 2193, 2194, 2195, 2196, 2197, 2198, 2199, 2200, 1183, 2201, 1181, 2202, 1013, 2203, 1015, 1017, 752, 1258, 750, 693]
def iniW : List Nat := [137, 137, 158, 142, 151, 156, 156, 156, 156, 156, 156, 156, 156, 156, 156, 156, 156, 156, 156, 156, 156, 156, 156, 156, 156, 156, 156, 156, 156, 156, 156, 156, 156, 153]
set_option maxRecDepth 100000 in
theorem sts_ok : ∀ i, i < 34 → lw_tbl[layW.getD i 0]? = some (.laysStatic (sts.getD i ("", "", "")).1 (sts.getD i ("", "", "")).2.1 (sts.getD i ("", "", "")).2.2) ∧ lw_tbl[iniW.getD i 0]? = some (.initialized (sts.getD i ("", "", "")).1) := by decide +kernel
def srW : List Nat := [201, 716, 721, 722, 723]
theorem sr_ok : ∀ i, i < 5 → lw_tbl[srW.getD i 0]? = some (.stringRef (sld.getD i ("", 0, "")).1 (sld.getD i ("", 0, "")).2.1 (sld.getD i ("", 0, "")).2.2) ∧ (stD i).1 = (sld.getD i ("", 0, "")).1 ∧ (stD i).2.1 = (sld.getD i ("", 0, "")).2.1 := by decide +kernel
theorem u_inR {ws : List Cond} (ps : List Nat) (h : ws = ps.filterMap (fun i => lw_tbl[i]?)) : ∀ w ∈ ws, w ∈ lw_tbl := by
  intro w hw
  rw [h] at hw
  obtain ⟨i, -, hi⟩ := List.mem_filterMap.mp hw
  exact List.mem_of_getElem? hi
theorem u_in1 : ∀ w ∈ u_ws RX1 TX1 5, w ∈ lw_tbl := u_inR [342, 344, 346, 348, 350] (by decide +kernel)
theorem u_mk1 : lw_tbl[329]? = some (.instantiable RX1 5) := by decide +kernel
theorem u_in2 : ∀ w ∈ u_ws RX2 TX2 10, w ∈ lw_tbl := u_inR [794, 796, 798, 800, 802, 804, 806, 808, 810, 812] (by decide +kernel)
theorem u_mk2 : lw_tbl[757]? = some (.instantiable RX2 10) := by decide +kernel
theorem u_in3 : ∀ w ∈ u_ws RX3 TX3 9, w ∈ lw_tbl := u_inR [308, 310, 312, 314, 316, 318, 320, 322, 324] (by decide +kernel)
theorem u_mk3 : lw_tbl[243]? = some (.instantiable RX3 9) := by decide +kernel
theorem u_in4 : ∀ w ∈ u_ws RX4 TX4 2, w ∈ lw_tbl := u_inR [374, 376] (by decide +kernel)
theorem u_mk4 : lw_tbl[362]? = some (.instantiable RX4 2) := by decide +kernel
theorem u_in6 : ∀ w ∈ u_ws RX6 TX6 12, w ∈ lw_tbl := u_inR [216, 218, 220, 222, 224, 226, 228, 230, 232, 234, 236, 238] (by decide +kernel)
theorem u_mk6 : lw_tbl[196]? = some (.instantiable RX6 12) := by decide +kernel
theorem u_in7 : ∀ w ∈ u_ws RX7 TX7 2, w ∈ lw_tbl := u_inR [279, 281] (by decide +kernel)
theorem u_mk7 : lw_tbl[268]? = some (.instantiable RX7 2) := by decide +kernel
theorem u_in8 : ∀ w ∈ u_ws RX8 TX8 2, w ∈ lw_tbl := u_inR [260, 262] (by decide +kernel)
theorem u_mk8 : lw_tbl[250]? = some (.instantiable RX8 2) := by decide +kernel
theorem u_in9 : ∀ w ∈ u_ws RX9 TX9 11, w ∈ lw_tbl := u_inR [390, 392, 394, 396, 398, 400, 402, 404, 406, 408, 410] (by decide +kernel)
theorem u_mk9 : lw_tbl[354]? = some (.instantiable RX9 11) := by decide +kernel
theorem u_in10 : ∀ w ∈ u_ws RX10 TX10 17, w ∈ lw_tbl := u_inR [450, 452, 454, 456, 458, 460, 462, 464, 466, 468, 470, 472, 474, 476, 478, 480, 482] (by decide +kernel)
theorem u_mk10 : lw_tbl[414]? = some (.instantiable RX10 17) := by decide +kernel
theorem u_in11 : ∀ w ∈ u_ws RX11 TX11 4, w ∈ lw_tbl := u_inR [185, 187, 189, 191] (by decide +kernel)
theorem u_mk11 : lw_tbl[172]? = some (.instantiable RX11 4) := by decide +kernel
theorem u_in12 : ∀ w ∈ u_ws RX12 TX12 20, w ∈ lw_tbl := u_inR [510, 512, 514, 516, 518, 520, 522, 524, 526, 528, 530, 532, 534, 536, 538, 540, 542, 544, 546, 548] (by decide +kernel)
theorem u_mk12 : lw_tbl[163]? = some (.instantiable RX12 20) := by decide +kernel
theorem u_in13 : ∀ w ∈ u_ws RX13 TX13 52, w ∈ lw_tbl := u_inR [1452, 1454, 1456, 1458, 1460, 1462, 1464, 1466, 1468, 1470, 1472, 1474, 1476, 1478, 1480, 1482, 1484, 1486, 1488, 1490, 1492, 1494, 1496, 1498, 1500, 1502, 1504, 1506, 1508, 1510, 1512, 1514, 1516, 1518, 1520, 1522, 1524, 1526, 1528, 1530, 1532, 1534, 1536, 1538, 1540, 1542, 1544, 1546, 1548, 1550, 1552, 1554] (by decide +kernel)
theorem u_mk13 : lw_tbl[1395]? = some (.instantiable RX13 52) := by decide +kernel
theorem ar_ok : lw_tbl[485]? = some (.arrayClass .int) ∧ lw_tbl[194]? = some (.arrayClass .long) ∧ lw_tbl[265]? = some (.arrayClass .double) ∧ lw_tbl[241]? = some (.arrayClass .byte) ∧ lw_tbl[266]? = some (.arrayClass .boolean) ∧ lw_tbl[274]? = some (.arrayOver (.object RX2)) ∧ lw_tbl[327]? = some (.arrayOver (.object RX3)) ∧ lw_tbl[249]? = some (.arrayOver (.object RX8)) ∧ lw_tbl[171]? = some (.arrayOver (.object RX11)) := by decide +kernel
theorem ne_ok : lw_tbl[363]? = some (.methodLinkNest RX9 26 yX4_init RX12) ∧ lw_tbl[489]? = some (.methodLinkNest RX12 76 yX4_init RX12) ∧ lw_tbl[419]? = some (.fieldLinkNest RX10 18 RX12 "LATENCY" "[I" RX12) ∧ lw_tbl[747]? = some (.fieldLinkNest RX6 163 RX12 "OPS" "[LVectorPipes$Op;" RX12) ∧ lw_tbl[1151]? = some (.fieldLinkNest RX5 123 RX12 "LATENCY" "[I" RX12) := by decide +kernel
