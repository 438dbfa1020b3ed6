/-! written by wip/whole/gen.py out of the printed bytecode -/
theorem dX10_take_0 : decode cX10_take 0 = .ok (.aload_n 2, 1) := by decide +kernel
theorem dX10_take_1 : decode cX10_take 1 = .ok (.getfield 86, 3) := by decide +kernel
theorem dX10_take_4 : decode cX10_take 4 = .ok (.invokevirtual 121, 3) := by decide +kernel
theorem dX10_take_7 : decode cX10_take 7 = .ok (.istore 6, 2) := by decide +kernel
theorem dX10_take_9 : decode cX10_take 9 = .ok (.aload_n 2, 1) := by decide +kernel
theorem dX10_take_10 : decode cX10_take 10 = .ok (.getfield 86, 3) := by decide +kernel
theorem dX10_take_13 : decode cX10_take 13 = .ok (.iconst 2, 1) := by decide +kernel
theorem dX10_take_14 : decode cX10_take 14 = .ok (.invokevirtual 101, 3) := by decide +kernel
theorem dX10_take_17 : decode cX10_take 17 = .ok (.ifCond .eq 17, 3) := by decide +kernel
theorem dX10_take_20 : decode cX10_take 20 = .ok (.aload_n 2, 1) := by decide +kernel
theorem dX10_take_21 : decode cX10_take 21 = .ok (.getfield 86, 3) := by decide +kernel
theorem dX10_take_24 : decode cX10_take 24 = .ok (.getstatic 105, 3) := by decide +kernel
theorem dX10_take_27 : decode cX10_take 27 = .ok (.if_acmp .eq 7, 3) := by decide +kernel
theorem dX10_take_30 : decode cX10_take 30 = .ok (.iconst 1, 1) := by decide +kernel
theorem dX10_take_31 : decode cX10_take 31 = .ok (.goto 4, 3) := by decide +kernel
theorem dX10_take_34 : decode cX10_take 34 = .ok (.iconst 0, 1) := by decide +kernel
theorem dX10_take_35 : decode cX10_take 35 = .ok (.istore 7, 2) := by decide +kernel
theorem dX10_take_37 : decode cX10_take 37 = .ok (.iload_n 3, 1) := by decide +kernel
theorem dX10_take_38 : decode cX10_take 38 = .ok (.ifCond .ne 10, 3) := by decide +kernel
theorem dX10_take_41 : decode cX10_take 41 = .ok (.aload_n 0, 1) := by decide +kernel
theorem dX10_take_42 : decode cX10_take 42 = .ok (.getfield 52, 3) := by decide +kernel
theorem dX10_take_45 : decode cX10_take 45 = .ok (.goto 16, 3) := by decide +kernel
theorem dX10_take_48 : decode cX10_take 48 = .ok (.aload_n 0, 1) := by decide +kernel
theorem dX10_take_49 : decode cX10_take 49 = .ok (.getfield 52, 3) := by decide +kernel
theorem dX10_take_52 : decode cX10_take 52 = .ok (.aload_n 0, 1) := by decide +kernel
theorem dX10_take_53 : decode cX10_take 53 = .ok (.getfield 58, 3) := by decide +kernel
theorem dX10_take_56 : decode cX10_take 56 = .ok (.iconst 1, 1) := by decide +kernel
theorem dX10_take_57 : decode cX10_take 57 = .ok (.iadd, 1) := by decide +kernel
theorem dX10_take_58 : decode cX10_take 58 = .ok (.invokestatic 77, 3) := by decide +kernel
theorem dX10_take_61 : decode cX10_take 61 = .ok (.istore 8, 2) := by decide +kernel
theorem dX10_take_63 : decode cX10_take 63 = .ok (.iload 8, 2) := by decide +kernel
theorem dX10_take_65 : decode cX10_take 65 = .ok (.aload_n 0, 1) := by decide +kernel
theorem dX10_take_66 : decode cX10_take 66 = .ok (.aload_n 2, 1) := by decide +kernel
theorem dX10_take_67 : decode cX10_take 67 = .ok (.iload_n 3, 1) := by decide +kernel
theorem dX10_take_68 : decode cX10_take 68 = .ok (.invokevirtual 125, 3) := by decide +kernel
theorem dX10_take_71 : decode cX10_take 71 = .ok (.invokestatic 77, 3) := by decide +kernel
theorem dX10_take_74 : decode cX10_take 74 = .ok (.istore 8, 2) := by decide +kernel
theorem dX10_take_76 : decode cX10_take 76 = .ok (.iload 7, 2) := by decide +kernel
theorem dX10_take_78 : decode cX10_take 78 = .ok (.ifCond .eq 42, 3) := by decide +kernel
theorem dX10_take_81 : decode cX10_take 81 = .ok (.aload_n 2, 1) := by decide +kernel
theorem dX10_take_82 : decode cX10_take 82 = .ok (.getfield 118, 3) := by decide +kernel
theorem dX10_take_85 : decode cX10_take 85 = .ok (.iload_n 3, 1) := by decide +kernel
theorem dX10_take_86 : decode cX10_take 86 = .ok (.invokestatic 73, 3) := by decide +kernel
theorem dX10_take_89 : decode cX10_take 89 = .ok (.istore 9, 2) := by decide +kernel
theorem dX10_take_91 : decode cX10_take 91 = .ok (.iload 8, 2) := by decide +kernel
theorem dX10_take_93 : decode cX10_take 93 = .ok (.aload_n 0, 1) := by decide +kernel
theorem dX10_take_94 : decode cX10_take 94 = .ok (.getfield 24, 3) := by decide +kernel
theorem dX10_take_97 : decode cX10_take 97 = .ok (.iload 9, 2) := by decide +kernel
theorem dX10_take_99 : decode cX10_take 99 = .ok (.iaload, 1) := by decide +kernel
theorem dX10_take_100 : decode cX10_take 100 = .ok (.aload_n 0, 1) := by decide +kernel
theorem dX10_take_101 : decode cX10_take 101 = .ok (.getfield 27, 3) := by decide +kernel
theorem dX10_take_104 : decode cX10_take 104 = .ok (.iload 9, 2) := by decide +kernel
theorem dX10_take_106 : decode cX10_take 106 = .ok (.iaload, 1) := by decide +kernel
theorem dX10_take_107 : decode cX10_take 107 = .ok (.invokestatic 77, 3) := by decide +kernel
theorem dX10_take_110 : decode cX10_take 110 = .ok (.iconst 1, 1) := by decide +kernel
theorem dX10_take_111 : decode cX10_take 111 = .ok (.iadd, 1) := by decide +kernel
theorem dX10_take_112 : decode cX10_take 112 = .ok (.iload 6, 2) := by decide +kernel
theorem dX10_take_114 : decode cX10_take 114 = .ok (.isub, 1) := by decide +kernel
theorem dX10_take_115 : decode cX10_take 115 = .ok (.invokestatic 77, 3) := by decide +kernel
theorem dX10_take_118 : decode cX10_take 118 = .ok (.istore 8, 2) := by decide +kernel
theorem dX10_take_120 : decode cX10_take 120 = .ok (.aload_n 0, 1) := by decide +kernel
theorem dX10_take_121 : decode cX10_take 121 = .ok (.aload_n 0, 1) := by decide +kernel
theorem dX10_take_122 : decode cX10_take 122 = .ok (.iload 8, 2) := by decide +kernel
theorem dX10_take_124 : decode cX10_take 124 = .ok (.iload 4, 2) := by decide +kernel
theorem dX10_take_126 : decode cX10_take 126 = .ok (.iload 5, 2) := by decide +kernel
theorem dX10_take_128 : decode cX10_take 128 = .ok (.invokevirtual 128, 3) := by decide +kernel
theorem dX10_take_131 : decode cX10_take 131 = .ok (.putfield 58, 3) := by decide +kernel
theorem dX10_take_134 : decode cX10_take 134 = .ok (.aload_n 0, 1) := by decide +kernel
theorem dX10_take_135 : decode cX10_take 135 = .ok (.aload_n 2, 1) := by decide +kernel
theorem dX10_take_136 : decode cX10_take 136 = .ok (.iload_n 3, 1) := by decide +kernel
theorem dX10_take_137 : decode cX10_take 137 = .ok (.invokevirtual 132, 3) := by decide +kernel
theorem dX10_take_140 : decode cX10_take 140 = .ok (.iload 7, 2) := by decide +kernel
theorem dX10_take_142 : decode cX10_take 142 = .ok (.ifCond .eq 19, 3) := by decide +kernel
theorem dX10_take_145 : decode cX10_take 145 = .ok (.aload_n 0, 1) := by decide +kernel
theorem dX10_take_146 : decode cX10_take 146 = .ok (.aload_n 2, 1) := by decide +kernel
theorem dX10_take_147 : decode cX10_take 147 = .ok (.getfield 118, 3) := by decide +kernel
theorem dX10_take_150 : decode cX10_take 150 = .ok (.iload_n 3, 1) := by decide +kernel
theorem dX10_take_151 : decode cX10_take 151 = .ok (.aload_n 0, 1) := by decide +kernel
theorem dX10_take_152 : decode cX10_take 152 = .ok (.getfield 58, 3) := by decide +kernel
theorem dX10_take_155 : decode cX10_take 155 = .ok (.iload 6, 2) := by decide +kernel
theorem dX10_take_157 : decode cX10_take 157 = .ok (.iadd, 1) := by decide +kernel
theorem dX10_take_158 : decode cX10_take 158 = .ok (.invokevirtual 136, 3) := by decide +kernel
theorem dX10_take_161 : decode cX10_take 161 = .ok (.aload_n 0, 1) := by decide +kernel
theorem dX10_take_162 : decode cX10_take 162 = .ok (.iload_n 1, 1) := by decide +kernel
theorem dX10_take_163 : decode cX10_take 163 = .ok (.aload_n 0, 1) := by decide +kernel
theorem dX10_take_164 : decode cX10_take 164 = .ok (.getfield 58, 3) := by decide +kernel
theorem dX10_take_167 : decode cX10_take 167 = .ok (.invokevirtual 140, 3) := by decide +kernel
theorem dX10_take_170 : decode cX10_take 170 = .ok (.return_, 1) := by decide +kernel
def pX10_take_b161 (E : EC) (g : MT) (this : Nat) (p1 : Int32) (p2 : Nat) (p3 : Int32) (p4 : Int32) (p5 : Int32) (h : CT) : Option CT := bd (pX10_endAt g h this p1 (hI h this 10)) fun h1 => (some h1)
set_option maxRecDepth 10000 in
set_option maxHeartbeats 4000000 in
theorem pX10_take_b161_ok {X : Cx} {G : Gx} {dk : Nat} {g : MT} {h0 : CT} {this : Nat} {p1 : Int32} {p2 : Nat} {p3 : Int32} {p4 : Int32} {p5 : Int32} (Z : Zx X G cX10_take RX10 10 dk none none g h0) (hK : 3 ≤ dk) {E : EC} (hE : G.2.2.2 = E) (t0 : gT g this = 9) (h : CT) (hf : pX10_take_b161 E g this p1 p2 p3 p4 p5 h = some h0) : J X g h 161 [(0, va_rf (some this)), (1, .int p1)] [] := by
  unfold pX10_take_b161 at hf
  refine J_aload_n Z.1 0 dX10_take_161 rfl rfl ?_
  refine J_iload_n Z.1 1 dX10_take_162 rfl rfl ?_
  refine J_aload_n Z.1 0 dX10_take_163 rfl rfl ?_
  refine J_get (v := .int (hI h this 10)) Z.1 dX10_take_164 fl_X10_58 t0 rfl ?_
  replace hf := bd_i hf
  obtain ⟨h1, q2, hf⟩ := hf
  refine J_callV (ci := 8) (as := [.int p1, .int (hI h this 10)]) (rest := []) (sy := []) Z.1 dX10_take_167 cw_X10_140 (pX10_endAt_ok G (dk - 1) (by omega) q2) rfl rfl t0 (zG Z) rfl (by decide) (zF Z (by omega)) (zO Z (by omega) (by decide)) (zM _) Z.2.1 Z.2.1 rfl rfl ?_
  cases hf
  exact J_vret Z.1 Z.2.2.2.2.2 dX10_take_170
def pX10_take_b120 (E : EC) (g : MT) (this : Nat) (p1 : Int32) (p2 : Nat) (p3 : Int32) (p4 : Int32) (p5 : Int32) (l6 : Int32) (l7 : Int32) (l8 : Int32) (h : CT) : Option CT := bd2 (pX10_throughBank g h this l8 p4 p5) fun x3 h1 => (lt (sI h1 this 10 x3) fun h4 => (bd (pX10_readOperands E g h4 this p2 p3) fun h5 => (if l7 = 0 then pX10_take_b161 E g this p1 p2 p3 p4 p5  h5 else tg g p2 2 (bd (pX10_readyFrom g h5 this (hI h5 p2 1) p3 ((hI h5 this 10) + l6)) fun h9 => (pX10_take_b161 E g this p1 p2 p3 p4 p5  h9)))))
set_option maxRecDepth 10000 in
set_option maxHeartbeats 4000000 in
theorem pX10_take_b120_ok {X : Cx} {G : Gx} {dk : Nat} {g : MT} {h0 : CT} {this : Nat} {p1 : Int32} {p2 : Nat} {p3 : Int32} {p4 : Int32} {p5 : Int32} (Z : Zx X G cX10_take RX10 10 dk none none g h0) (hK : 3 ≤ dk) {E : EC} (hE : G.2.2.2 = E) (t0 : gT g this = 9) (l6 : Int32) (l7 : Int32) (l8 : Int32) (h : CT) (hf : pX10_take_b120 E g this p1 p2 p3 p4 p5 l6 l7 l8 h = some h0) : J X g h 120 [(0, va_rf (some this)), (1, .int p1), (2, va_rf (some p2)), (3, .int p3), (4, .int p4), (5, .int p5), (6, .int l6), (7, .int l7), (8, .int l8)] [] := by
  unfold pX10_take_b120 at hf
  refine J_aload_n Z.1 0 dX10_take_120 rfl rfl ?_
  refine J_aload_n Z.1 0 dX10_take_121 rfl rfl ?_
  refine J_iload Z.1 8 dX10_take_122 rfl ?_
  refine J_iload Z.1 4 dX10_take_124 rfl ?_
  refine J_iload Z.1 5 dX10_take_126 rfl ?_
  replace hf := bd2_i hf
  obtain ⟨x3, h1, q2, hf⟩ := hf
  refine J_callV (ci := 8) (as := [.int l8, .int p4, .int p5]) (rest := [va_rf (some this)]) (sy := [.int x3, va_rf (some this)]) Z.1 dX10_take_128 cw_X10_128 (pX10_throughBank_ok G (dk - 1) (by omega) q2) rfl rfl t0 (zG Z) rfl (by simp [cat_i, cat_l, cat_d, cat_rf]) (zF Z (by omega)) (zO Z (by omega) (by decide)) (zM _) Z.2.1 Z.2.1 rfl rfl ?_
  refine J_putI Z.1 dX10_take_131 fl_X10_58 (fun q => by cases q) t0 rfl rfl (congrArg Value.int (hI_s _ _ _ _)) ?_
  refine J_th (fun h4 eh4 => ?_)
  replace hf := lt_i hf h4 eh4
  refine J_aload_n Z.1 0 dX10_take_134 rfl rfl ?_
  refine J_aload_n Z.1 2 dX10_take_135 rfl rfl ?_
  refine J_iload_n Z.1 3 dX10_take_136 rfl rfl ?_
  replace hf := bd_i hf
  obtain ⟨h5, q6, hf⟩ := hf
  refine J_callV (ci := 8) (as := [va_rf (some p2), .int p3]) (rest := []) (sy := []) Z.1 dX10_take_137 cw_X10_132 (pX10_readOperands_ok G (dk - 1) (by omega) hE q6) rfl rfl t0 (zG Z) rfl (by decide) (zF Z (by omega)) (zO Z (by omega) (by decide)) (zM _) Z.2.1 Z.2.1 rfl rfl ?_
  refine J_iload Z.1 7 dX10_take_140 rfl ?_
  refine J_if_eq Z.1 161 dX10_take_142 (by decide) (fun c7 => ?_) (fun c7 => ?_)
  · rw [if_pos c7] at hf
    refine J_lv [0, 1] rfl ?_
    exact pX10_take_b161_ok Z hK hE t0  _ hf
  · rw [if_neg c7] at hf
    refine J_aload_n Z.1 0 dX10_take_145 rfl rfl ?_
    refine J_aload_n Z.1 2 dX10_take_146 rfl rfl ?_
    replace hf := tg_i hf
    obtain ⟨t8, hf⟩ := hf
    refine J_get (v := .int (hI h5 p2 1)) Z.1 dX10_take_147 fl_X10_118 t8 rfl ?_
    refine J_iload_n Z.1 3 dX10_take_150 rfl rfl ?_
    refine J_aload_n Z.1 0 dX10_take_151 rfl rfl ?_
    refine J_get (v := .int (hI h5 this 10)) Z.1 dX10_take_152 fl_X10_58 t0 rfl ?_
    refine J_iload Z.1 6 dX10_take_155 rfl ?_
    refine J_iadd Z.1 dX10_take_157 ?_
    replace hf := bd_i hf
    obtain ⟨h9, q10, hf⟩ := hf
    refine J_callV (ci := 8) (as := [.int (hI h5 p2 1), .int p3, .int ((hI h5 this 10) + l6)]) (rest := []) (sy := []) Z.1 dX10_take_158 cw_X10_136 (pX10_readyFrom_ok G (dk - 1) (by omega) q10) rfl rfl t0 (zG Z) rfl (by decide) (zF Z (by omega)) (zO Z (by omega) (by decide)) (zM _) Z.2.1 Z.2.1 rfl rfl ?_
    refine J_lv [0, 1] rfl ?_
    exact pX10_take_b161_ok Z hK hE t0  _ hf
def pX10_take_b61 (E : EC) (g : MT) (this : Nat) (p1 : Int32) (p2 : Nat) (p3 : Int32) (p4 : Int32) (p5 : Int32) (l6 : Int32) (l7 : Int32) (s0 : Int32) (h : CT) : Option CT := bd (pX10_operandsReady E g h this p2 p3) fun x1 => (lt (pJ9_max_7cf53 s0 x1) fun x3 => (if l7 = 0 then pX10_take_b120 E g this p1 p2 p3 p4 p5  l6 l7 x3 h else tg g p2 2 (lt (pX10_cell (hI h p2 1) p3) fun x6 => (lt (hR h this 14) fun r7 => (nn r7 fun a7 => (tg g a7 20 (ix (gL g a7) x6 (lt (hR h this 15) fun r10 => (nn r10 fun a10 => (tg g a10 20 (ix (gL g a10) x6 (lt (pJ9_max_7cf53 x3 (((pJ9_max_7cf53 (hI h a7 (Int32.toNatClampNeg x6)) (hI h a10 (Int32.toNatClampNeg x6))) + 1) - l6)) fun x13 => (pX10_take_b120 E g this p1 p2 p3 p4 p5  l6 l7 x13 h)))))))))))))
set_option maxRecDepth 10000 in
set_option maxHeartbeats 4000000 in
theorem pX10_take_b61_ok {X : Cx} {G : Gx} {dk : Nat} {g : MT} {h0 : CT} {this : Nat} {p1 : Int32} {p2 : Nat} {p3 : Int32} {p4 : Int32} {p5 : Int32} (Z : Zx X G cX10_take RX10 10 dk none none g h0) (hK : 3 ≤ dk) {E : EC} (hE : G.2.2.2 = E) (t0 : gT g this = 9) (l6 : Int32) (l7 : Int32) (s0 : Int32) (h : CT) (hf : pX10_take_b61 E g this p1 p2 p3 p4 p5 l6 l7 s0 h = some h0) : J X g h 61 [(0, va_rf (some this)), (1, .int p1), (2, va_rf (some p2)), (3, .int p3), (4, .int p4), (5, .int p5), (6, .int l6), (7, .int l7)] [.int s0] := by
  unfold pX10_take_b61 at hf
  refine J_istore Z.1 (lv2 := [(8, .int s0), (0, va_rf (some this)), (1, .int p1), (2, va_rf (some p2)), (3, .int p3), (4, .int p4), (5, .int p5), (6, .int l6), (7, .int l7)]) dX10_take_61 (zL Z (by decide)) rfl ?_
  refine J_iload Z.1 0 dX10_take_63 rfl ?_
  refine J_aload_n Z.1 1 dX10_take_65 rfl rfl ?_
  refine J_aload_n Z.1 3 dX10_take_66 rfl rfl ?_
  refine J_iload_n Z.1 4 dX10_take_67 rfl rfl ?_
  replace hf := bd_i hf
  obtain ⟨x1, q2, hf⟩ := hf
  refine J_callV (ci := 8) (as := [va_rf (some p2), .int p3]) (rest := [.int s0]) (sy := [.int x1, .int s0]) Z.1 dX10_take_68 cw_X10_125 (pX10_operandsReady_ok G (dk - 1) (by omega) hE q2) rfl rfl t0 (zG Z) rfl (by simp [cat_i, cat_l, cat_d, cat_rf]) (zF Z (by omega)) (zO Z (by omega) (by decide)) (zM _) Z.2.1 Z.2.1 rfl rfl ?_
  refine J_callS (as := [.int s0, .int x1]) (rest := []) (sy := [.int (pJ9_max_7cf53 s0 x1)]) Z.1 dX10_take_71 cw_X10_77 (pJ9_max_7cf53_ok G (dk - 1) (by omega) g h s0 x1) (zG Z) rfl (by decide) (zF Z (by omega)) (zO Z (by omega) (by decide)) (zM _) Z.2.1 Z.2.1 rfl rfl ?_
  refine J_ti (fun x3 ex3 => ?_)
  replace hf := lt_i hf x3 ex3
  refine J_istore Z.1 (lv2 := [(8, .int x3), (0, va_rf (some this)), (1, .int p1), (2, va_rf (some p2)), (3, .int p3), (4, .int p4), (5, .int p5), (6, .int l6), (7, .int l7)]) dX10_take_74 (zL Z (by decide)) rfl ?_
  refine J_iload Z.1 8 dX10_take_76 rfl ?_
  refine J_if_eq Z.1 120 dX10_take_78 (by decide) (fun c4 => ?_) (fun c4 => ?_)
  · rw [if_pos c4] at hf
    refine J_lv [1, 2, 3, 4, 5, 6, 7, 8, 0] rfl ?_
    exact pX10_take_b120_ok Z hK hE t0  _ _ _ _ hf
  · rw [if_neg c4] at hf
    refine J_aload_n Z.1 3 dX10_take_81 rfl rfl ?_
    replace hf := tg_i hf
    obtain ⟨t5, hf⟩ := hf
    refine J_get (v := .int (hI h p2 1)) Z.1 dX10_take_82 fl_X10_118 t5 rfl ?_
    refine J_iload_n Z.1 4 dX10_take_85 rfl rfl ?_
    refine J_callS (as := [.int (hI h p2 1), .int p3]) (rest := []) (sy := [.int (pX10_cell (hI h p2 1) p3)]) Z.1 dX10_take_86 cw_X10_73 (pX10_cell_ok G (dk - 1) (by omega) g h (hI h p2 1) p3) (zG Z) rfl (by decide) (zF Z (by omega)) (zO Z (by omega) (by decide)) (zM _) Z.2.1 Z.2.1 rfl rfl ?_
    refine J_ti (fun x6 ex6 => ?_)
    replace hf := lt_i hf x6 ex6
    refine J_istore Z.1 (lv2 := [(9, .int x6), (8, .int x3), (0, va_rf (some this)), (1, .int p1), (2, va_rf (some p2)), (3, .int p3), (4, .int p4), (5, .int p5), (6, .int l6), (7, .int l7)]) dX10_take_89 (zL Z (by decide)) rfl ?_
    refine J_iload Z.1 1 dX10_take_91 rfl ?_
    refine J_aload_n Z.1 2 dX10_take_93 rfl rfl ?_
    refine J_get (v := va_rf (hR h this 14)) Z.1 dX10_take_94 fl_X10_24 t0 rfl ?_
    refine J_tr (fun r7 er7 => ?_)
    replace hf := lt_i hf r7 er7
    refine J_iload Z.1 0 dX10_take_97 rfl ?_
    replace hf := nn_i hf
    obtain ⟨a7, rfl, hf⟩ := hf
    replace hf := tg_i hf
    obtain ⟨t8, hf⟩ := hf
    replace hf := ix_i hf
    obtain ⟨i9, hf⟩ := hf
    refine J_iaload Z.1 dX10_take_99 t8 i9 ?_
    refine J_aload_n Z.1 2 dX10_take_100 rfl rfl ?_
    refine J_get (v := va_rf (hR h this 15)) Z.1 dX10_take_101 fl_X10_27 t0 rfl ?_
    refine J_tr (fun r10 er10 => ?_)
    replace hf := lt_i hf r10 er10
    refine J_iload Z.1 0 dX10_take_104 rfl ?_
    replace hf := nn_i hf
    obtain ⟨a10, rfl, hf⟩ := hf
    replace hf := tg_i hf
    obtain ⟨t11, hf⟩ := hf
    replace hf := ix_i hf
    obtain ⟨i12, hf⟩ := hf
    refine J_iaload Z.1 dX10_take_106 t11 i12 ?_
    refine J_callS (as := [.int (hI h a7 (Int32.toNatClampNeg x6)), .int (hI h a10 (Int32.toNatClampNeg x6))]) (rest := [.int x3]) (sy := [.int (pJ9_max_7cf53 (hI h a7 (Int32.toNatClampNeg x6)) (hI h a10 (Int32.toNatClampNeg x6))), .int x3]) Z.1 dX10_take_107 cw_X10_77 (pJ9_max_7cf53_ok G (dk - 1) (by omega) g h (hI h a7 (Int32.toNatClampNeg x6)) (hI h a10 (Int32.toNatClampNeg x6))) (zG Z) rfl (by simp [cat_i, cat_l, cat_d, cat_rf]) (zF Z (by omega)) (zO Z (by omega) (by decide)) (zM _) Z.2.1 Z.2.1 rfl rfl ?_
    refine J_iconst Z.1 (v := 1) (by decide) dX10_take_110 ?_
    refine J_iadd Z.1 dX10_take_111 ?_
    refine J_iload Z.1 8 dX10_take_112 rfl ?_
    refine J_isub Z.1 dX10_take_114 ?_
    refine J_callS (as := [.int x3, .int (((pJ9_max_7cf53 (hI h a7 (Int32.toNatClampNeg x6)) (hI h a10 (Int32.toNatClampNeg x6))) + 1) - l6)]) (rest := []) (sy := [.int (pJ9_max_7cf53 x3 (((pJ9_max_7cf53 (hI h a7 (Int32.toNatClampNeg x6)) (hI h a10 (Int32.toNatClampNeg x6))) + 1) - l6))]) Z.1 dX10_take_115 cw_X10_77 (pJ9_max_7cf53_ok G (dk - 1) (by omega) g h x3 (((pJ9_max_7cf53 (hI h a7 (Int32.toNatClampNeg x6)) (hI h a10 (Int32.toNatClampNeg x6))) + 1) - l6)) (zG Z) rfl (by decide) (zF Z (by omega)) (zO Z (by omega) (by decide)) (zM _) Z.2.1 Z.2.1 rfl rfl ?_
    refine J_ti (fun x13 ex13 => ?_)
    replace hf := lt_i hf x13 ex13
    refine J_istore Z.1 (lv2 := [(8, .int x13), (9, .int x6), (0, va_rf (some this)), (1, .int p1), (2, va_rf (some p2)), (3, .int p3), (4, .int p4), (5, .int p5), (6, .int l6), (7, .int l7)]) dX10_take_118 (zL Z (by decide)) rfl ?_
    refine J_lv [2, 3, 4, 5, 6, 7, 8, 9, 0] rfl ?_
    exact pX10_take_b120_ok Z hK hE t0  _ _ _ _ hf
def pX10_take_b35 (E : EC) (g : MT) (this : Nat) (p1 : Int32) (p2 : Nat) (p3 : Int32) (p4 : Int32) (p5 : Int32) (l6 : Int32) (s0 : Int32) (h : CT) : Option CT := if p3 = 0 then pX10_take_b61 E g this p1 p2 p3 p4 p5  l6 s0 (hI h this 8) h else pX10_take_b61 E g this p1 p2 p3 p4 p5  l6 s0 (pJ9_max_7cf53 (hI h this 8) ((hI h this 10) + 1)) h
set_option maxRecDepth 10000 in
set_option maxHeartbeats 4000000 in
theorem pX10_take_b35_ok {X : Cx} {G : Gx} {dk : Nat} {g : MT} {h0 : CT} {this : Nat} {p1 : Int32} {p2 : Nat} {p3 : Int32} {p4 : Int32} {p5 : Int32} (Z : Zx X G cX10_take RX10 10 dk none none g h0) (hK : 3 ≤ dk) {E : EC} (hE : G.2.2.2 = E) (t0 : gT g this = 9) (l6 : Int32) (s0 : Int32) (h : CT) (hf : pX10_take_b35 E g this p1 p2 p3 p4 p5 l6 s0 h = some h0) : J X g h 35 [(0, va_rf (some this)), (1, .int p1), (2, va_rf (some p2)), (3, .int p3), (4, .int p4), (5, .int p5), (6, .int l6)] [.int s0] := by
  unfold pX10_take_b35 at hf
  refine J_istore Z.1 (lv2 := [(7, .int s0), (0, va_rf (some this)), (1, .int p1), (2, va_rf (some p2)), (3, .int p3), (4, .int p4), (5, .int p5), (6, .int l6)]) dX10_take_35 (zL Z (by decide)) rfl ?_
  refine J_iload_n Z.1 4 dX10_take_37 rfl rfl ?_
  refine J_if_ne Z.1 48 dX10_take_38 (by decide) (fun c1 => ?_) (fun c1 => ?_)
  · rw [if_neg c1] at hf
    refine J_aload_n Z.1 1 dX10_take_48 rfl rfl ?_
    refine J_get (v := .int (hI h this 8)) Z.1 dX10_take_49 fl_X10_52 t0 rfl ?_
    refine J_aload_n Z.1 1 dX10_take_52 rfl rfl ?_
    refine J_get (v := .int (hI h this 10)) Z.1 dX10_take_53 fl_X10_58 t0 rfl ?_
    refine J_iconst Z.1 (v := 1) (by decide) dX10_take_56 ?_
    refine J_iadd Z.1 dX10_take_57 ?_
    refine J_callS (as := [.int (hI h this 8), .int ((hI h this 10) + 1)]) (rest := []) (sy := [.int (pJ9_max_7cf53 (hI h this 8) ((hI h this 10) + 1))]) Z.1 dX10_take_58 cw_X10_77 (pJ9_max_7cf53_ok G (dk - 1) (by omega) g h (hI h this 8) ((hI h this 10) + 1)) (zG Z) rfl (by decide) (zF Z (by omega)) (zO Z (by omega) (by decide)) (zM _) Z.2.1 Z.2.1 rfl rfl ?_
    refine J_lv [1, 2, 3, 4, 5, 6, 7, 0] rfl ?_
    exact pX10_take_b61_ok Z hK hE t0  _ _ _ _ hf
  · rw [if_pos c1] at hf
    refine J_aload_n Z.1 1 dX10_take_41 rfl rfl ?_
    refine J_get (v := .int (hI h this 8)) Z.1 dX10_take_42 fl_X10_52 t0 rfl ?_
    refine J_goto Z.1 61 dX10_take_45 (by decide) ?_
    refine J_lv [1, 2, 3, 4, 5, 6, 7, 0] rfl ?_
    exact pX10_take_b61_ok Z hK hE t0  _ _ _ _ hf
def pX10_take_b34 (E : EC) (g : MT) (this : Nat) (p1 : Int32) (p2 : Nat) (p3 : Int32) (p4 : Int32) (p5 : Int32) (l6 : Int32) (h : CT) : Option CT := pX10_take_b35 E g this p1 p2 p3 p4 p5  l6 0 h
set_option maxRecDepth 10000 in
set_option maxHeartbeats 4000000 in
theorem pX10_take_b34_ok {X : Cx} {G : Gx} {dk : Nat} {g : MT} {h0 : CT} {this : Nat} {p1 : Int32} {p2 : Nat} {p3 : Int32} {p4 : Int32} {p5 : Int32} (Z : Zx X G cX10_take RX10 10 dk none none g h0) (hK : 3 ≤ dk) {E : EC} (hE : G.2.2.2 = E) (t0 : gT g this = 9) (l6 : Int32) (h : CT) (hf : pX10_take_b34 E g this p1 p2 p3 p4 p5 l6 h = some h0) : J X g h 34 [(0, va_rf (some this)), (1, .int p1), (2, va_rf (some p2)), (3, .int p3), (4, .int p4), (5, .int p5), (6, .int l6)] [] := by
  unfold pX10_take_b34 at hf
  refine J_iconst Z.1 (v := 0) (by decide) dX10_take_34 ?_
  exact pX10_take_b35_ok Z hK hE t0  _ _ _ hf
def pX10_take (E : EC) (g : MT) (h : CT) (this : Nat) (p1 : Int32) (p2 : Nat) (p3 : Int32) (p4 : Int32) (p5 : Int32) : Option CT := tg g this 9 (tg g p2 2 (lt (hR h p2 0) fun r2 => (nn r2 fun a2 => (tg E.2.2 a2 60 (bd (pX5_latency E g h a2) fun x4 => (lt (hR h p2 0) fun r6 => (nn r6 fun a6 => (tg E.2.2 a6 60 (bd (pX5_does E g h a6 2) fun x8 => (if x8 = 0 then pX10_take_b34 E g this p1 p2 p3 p4 p5  x4 h else lt (hR h p2 0) fun r11 => (kR (E.1 26) fun a12 => (if r11 = (some a12) then pX10_take_b34 E g this p1 p2 p3 p4 p5  x4 h else pX10_take_b35 E g this p1 p2 p3 p4 p5  x4 1 h))))))))))))
set_option maxRecDepth 10000 in
set_option maxHeartbeats 4000000 in
theorem pX10_take_ok (G : Gx) (dk : Nat) (hK : 3 ≤ dk) {g : MT} {E : EC} (hE : G.2.2.2 = E) {h h0 : CT} {this : Nat} {p1 : Int32} {p2 : Nat} {p3 : Int32} {p4 : Int32} {p5 : Int32} (hf : pX10_take E g h this p1 p2 p3 p4 p5 = some h0) : Ctr G dk yX10_take cX10_take 10 none [va_rf (some this), .int p1, va_rf (some p2), .int p3, .int p4, .int p5] g h none g h0 := by
  refine Ctr.ofZ (lv := [(0, va_rf (some this)), (1, .int p1), (2, va_rf (some p2)), (3, .int p3), (4, .int p4), (5, .int p5)]) (by decide +kernel) (by simp [cat_i, cat_l, cat_d, cat_rf]) rfl fun X Z => ?_
  unfold pX10_take at hf
  replace hf := tg_i hf
  obtain ⟨t0, hf⟩ := hf
  refine J_aload_n Z.1 2 dX10_take_0 rfl rfl ?_
  replace hf := tg_i hf
  obtain ⟨t1, hf⟩ := hf
  refine J_get (v := va_rf (hR h p2 0)) Z.1 dX10_take_1 fl_X10_86 t1 rfl ?_
  refine J_tr (fun r2 er2 => ?_)
  replace hf := lt_i hf r2 er2
  replace hf := nn_i hf
  obtain ⟨a2, rfl, hf⟩ := hf
  replace hf := tg_i hf
  obtain ⟨t3, hf⟩ := hf
  rw [← zE Z hE] at t3
  replace hf := bd_i hf
  obtain ⟨x4, q5, hf⟩ := hf
  refine J_callK (as := []) (rest := []) (sy := [.int x4]) Z.1 dX10_take_4 cw_X10_121 (pX5_latency_ok G (dk - 1) (by omega) hE q5) (kO Z.1 t3) (zG Z) rfl (by decide) (zF Z (by omega)) (zO Z (by omega) (by decide)) (zM _) Z.2.1 Z.2.1 rfl rfl ?_
  refine J_istore Z.1 (lv2 := [(6, .int x4), (0, va_rf (some this)), (1, .int p1), (2, va_rf (some p2)), (3, .int p3), (4, .int p4), (5, .int p5)]) dX10_take_7 (zL Z (by decide)) rfl ?_
  refine J_aload_n Z.1 3 dX10_take_9 rfl rfl ?_
  refine J_get (v := va_rf (hR h p2 0)) Z.1 dX10_take_10 fl_X10_86 t1 rfl ?_
  refine J_tr (fun r6 er6 => ?_)
  replace hf := lt_i hf r6 er6
  refine J_iconst Z.1 (v := 2) (by decide) dX10_take_13 ?_
  replace hf := nn_i hf
  obtain ⟨a6, rfl, hf⟩ := hf
  replace hf := tg_i hf
  obtain ⟨t7, hf⟩ := hf
  rw [← zE Z hE] at t7
  replace hf := bd_i hf
  obtain ⟨x8, q9, hf⟩ := hf
  refine J_callK (as := [.int 2]) (rest := []) (sy := [.int x8]) Z.1 dX10_take_14 cw_X10_101 (pX5_does_ok G (dk - 1) (by omega) hE q9) (kO Z.1 t7) (zG Z) rfl (by decide) (zF Z (by omega)) (zO Z (by omega) (by decide)) (zM _) Z.2.1 Z.2.1 rfl rfl ?_
  refine J_if_eq Z.1 34 dX10_take_17 (by decide) (fun c10 => ?_) (fun c10 => ?_)
  · rw [if_pos c10] at hf
    refine J_lv [1, 2, 3, 4, 5, 6, 0] rfl ?_
    exact pX10_take_b34_ok Z hK hE t0  _ _ hf
  · rw [if_neg c10] at hf
    refine J_aload_n Z.1 3 dX10_take_20 rfl rfl ?_
    refine J_get (v := va_rf (hR h p2 0)) Z.1 dX10_take_21 fl_X10_86 t1 rfl ?_
    refine J_tr (fun r11 er11 => ?_)
    replace hf := lt_i hf r11 er11
    replace hf := kR_i hf
    obtain ⟨a12, ea12, hf⟩ := hf
    refine J_gets (i := 26) (v := va_rf (some a12)) Z.1 dX10_take_24 rfl q_1012 (zEv Z hE ea12) rfl ?_
    refine J_acmp_eq Z.1 34 dX10_take_27 (by decide) (fun c13 => ?_) (fun c13 => ?_)
    · rw [if_pos c13] at hf
      refine J_lv [1, 2, 3, 4, 5, 6, 0] rfl ?_
      exact pX10_take_b34_ok Z hK hE t0  _ _ hf
    · rw [if_neg c13] at hf
      refine J_iconst Z.1 (v := 1) (by decide) dX10_take_30 ?_
      refine J_goto Z.1 35 dX10_take_31 (by decide) ?_
      refine J_lv [1, 2, 3, 4, 5, 6, 0] rfl ?_
      exact pX10_take_b35_ok Z hK hE t0  _ _ _ hf
theorem dX6_nextToken_0 : decode cX6_nextToken 0 = .ok (.aload_n 0, 1) := by decide +kernel
theorem dX6_nextToken_1 : decode cX6_nextToken 1 = .ok (.aload_n 0, 1) := by decide +kernel
theorem dX6_nextToken_2 : decode cX6_nextToken 2 = .ok (.getfield 37, 3) := by decide +kernel
theorem dX6_nextToken_5 : decode cX6_nextToken 5 = .ok (.putfield 65, 3) := by decide +kernel
theorem dX6_nextToken_8 : decode cX6_nextToken 8 = .ok (.aload_n 0, 1) := by decide +kernel
theorem dX6_nextToken_9 : decode cX6_nextToken 9 = .ok (.getfield 65, 3) := by decide +kernel
theorem dX6_nextToken_12 : decode cX6_nextToken 12 = .ok (.aload_n 0, 1) := by decide +kernel
theorem dX6_nextToken_13 : decode cX6_nextToken 13 = .ok (.getfield 34, 3) := by decide +kernel
theorem dX6_nextToken_16 : decode cX6_nextToken 16 = .ok (.if_icmp .ge 44, 3) := by decide +kernel
theorem dX6_nextToken_19 : decode cX6_nextToken 19 = .ok (.aload_n 0, 1) := by decide +kernel
theorem dX6_nextToken_20 : decode cX6_nextToken 20 = .ok (.getfield 18, 3) := by decide +kernel
theorem dX6_nextToken_23 : decode cX6_nextToken 23 = .ok (.aload_n 0, 1) := by decide +kernel
theorem dX6_nextToken_24 : decode cX6_nextToken 24 = .ok (.getfield 65, 3) := by decide +kernel
theorem dX6_nextToken_27 : decode cX6_nextToken 27 = .ok (.baload, 1) := by decide +kernel
theorem dX6_nextToken_28 : decode cX6_nextToken 28 = .ok (.bipush 10, 2) := by decide +kernel
theorem dX6_nextToken_30 : decode cX6_nextToken 30 = .ok (.if_icmp .eq 17, 3) := by decide +kernel
theorem dX6_nextToken_33 : decode cX6_nextToken 33 = .ok (.aload_n 0, 1) := by decide +kernel
theorem dX6_nextToken_34 : decode cX6_nextToken 34 = .ok (.getfield 18, 3) := by decide +kernel
theorem dX6_nextToken_37 : decode cX6_nextToken 37 = .ok (.aload_n 0, 1) := by decide +kernel
theorem dX6_nextToken_38 : decode cX6_nextToken 38 = .ok (.getfield 65, 3) := by decide +kernel
theorem dX6_nextToken_41 : decode cX6_nextToken 41 = .ok (.baload, 1) := by decide +kernel
theorem dX6_nextToken_42 : decode cX6_nextToken 42 = .ok (.bipush 32, 2) := by decide +kernel
theorem dX6_nextToken_44 : decode cX6_nextToken 44 = .ok (.if_icmp .ne 16, 3) := by decide +kernel
theorem dX6_nextToken_47 : decode cX6_nextToken 47 = .ok (.aload_n 0, 1) := by decide +kernel
theorem dX6_nextToken_48 : decode cX6_nextToken 48 = .ok (.dup, 1) := by decide +kernel
theorem dX6_nextToken_49 : decode cX6_nextToken 49 = .ok (.getfield 65, 3) := by decide +kernel
theorem dX6_nextToken_52 : decode cX6_nextToken 52 = .ok (.iconst 1, 1) := by decide +kernel
theorem dX6_nextToken_53 : decode cX6_nextToken 53 = .ok (.iadd, 1) := by decide +kernel
theorem dX6_nextToken_54 : decode cX6_nextToken 54 = .ok (.putfield 65, 3) := by decide +kernel
theorem dX6_nextToken_57 : decode cX6_nextToken 57 = .ok (.goto (-49), 3) := by decide +kernel
theorem dX6_nextToken_60 : decode cX6_nextToken 60 = .ok (.aload_n 0, 1) := by decide +kernel
theorem dX6_nextToken_61 : decode cX6_nextToken 61 = .ok (.aload_n 0, 1) := by decide +kernel
theorem dX6_nextToken_62 : decode cX6_nextToken 62 = .ok (.getfield 65, 3) := by decide +kernel
theorem dX6_nextToken_65 : decode cX6_nextToken 65 = .ok (.putfield 37, 3) := by decide +kernel
theorem dX6_nextToken_68 : decode cX6_nextToken 68 = .ok (.aload_n 0, 1) := by decide +kernel
theorem dX6_nextToken_69 : decode cX6_nextToken 69 = .ok (.getfield 65, 3) := by decide +kernel
theorem dX6_nextToken_72 : decode cX6_nextToken 72 = .ok (.aload_n 0, 1) := by decide +kernel
theorem dX6_nextToken_73 : decode cX6_nextToken 73 = .ok (.getfield 34, 3) := by decide +kernel
theorem dX6_nextToken_76 : decode cX6_nextToken 76 = .ok (.if_icmp .lt 5, 3) := by decide +kernel
theorem dX6_nextToken_79 : decode cX6_nextToken 79 = .ok (.iconst 0, 1) := by decide +kernel
theorem dX6_nextToken_80 : decode cX6_nextToken 80 = .ok (.ireturn, 1) := by decide +kernel
theorem dX6_nextToken_81 : decode cX6_nextToken 81 = .ok (.aload_n 0, 1) := by decide +kernel
theorem dX6_nextToken_82 : decode cX6_nextToken 82 = .ok (.aload_n 0, 1) := by decide +kernel
theorem dX6_nextToken_83 : decode cX6_nextToken 83 = .ok (.getfield 18, 3) := by decide +kernel
theorem dX6_nextToken_86 : decode cX6_nextToken 86 = .ok (.aload_n 0, 1) := by decide +kernel
theorem dX6_nextToken_87 : decode cX6_nextToken 87 = .ok (.getfield 65, 3) := by decide +kernel
theorem dX6_nextToken_90 : decode cX6_nextToken 90 = .ok (.baload, 1) := by decide +kernel
theorem dX6_nextToken_91 : decode cX6_nextToken 91 = .ok (.invokestatic 72, 3) := by decide +kernel
theorem dX6_nextToken_94 : decode cX6_nextToken 94 = .ok (.putfield 76, 3) := by decide +kernel
theorem dX6_nextToken_97 : decode cX6_nextToken 97 = .ok (.aload_n 0, 1) := by decide +kernel
theorem dX6_nextToken_98 : decode cX6_nextToken 98 = .ok (.dup, 1) := by decide +kernel
theorem dX6_nextToken_99 : decode cX6_nextToken 99 = .ok (.getfield 37, 3) := by decide +kernel
theorem dX6_nextToken_102 : decode cX6_nextToken 102 = .ok (.iconst 1, 1) := by decide +kernel
theorem dX6_nextToken_103 : decode cX6_nextToken 103 = .ok (.iadd, 1) := by decide +kernel
theorem dX6_nextToken_104 : decode cX6_nextToken 104 = .ok (.putfield 37, 3) := by decide +kernel
theorem dX6_nextToken_107 : decode cX6_nextToken 107 = .ok (.aload_n 0, 1) := by decide +kernel
theorem dX6_nextToken_108 : decode cX6_nextToken 108 = .ok (.getfield 76, 3) := by decide +kernel
theorem dX6_nextToken_111 : decode cX6_nextToken 111 = .ok (.iconst 1, 1) := by decide +kernel
theorem dX6_nextToken_112 : decode cX6_nextToken 112 = .ok (.if_icmp .eq 11, 3) := by decide +kernel
theorem dX6_nextToken_115 : decode cX6_nextToken 115 = .ok (.aload_n 0, 1) := by decide +kernel
theorem dX6_nextToken_116 : decode cX6_nextToken 116 = .ok (.getfield 76, 3) := by decide +kernel
theorem dX6_nextToken_119 : decode cX6_nextToken 119 = .ok (.iconst 2, 1) := by decide +kernel
theorem dX6_nextToken_120 : decode cX6_nextToken 120 = .ok (.if_icmp .ne 46, 3) := by decide +kernel
theorem dX6_nextToken_123 : decode cX6_nextToken 123 = .ok (.aload_n 0, 1) := by decide +kernel
theorem dX6_nextToken_124 : decode cX6_nextToken 124 = .ok (.getfield 37, 3) := by decide +kernel
theorem dX6_nextToken_127 : decode cX6_nextToken 127 = .ok (.aload_n 0, 1) := by decide +kernel
theorem dX6_nextToken_128 : decode cX6_nextToken 128 = .ok (.getfield 34, 3) := by decide +kernel
theorem dX6_nextToken_131 : decode cX6_nextToken 131 = .ok (.if_icmp .ge 35, 3) := by decide +kernel
theorem dX6_nextToken_134 : decode cX6_nextToken 134 = .ok (.aload_n 0, 1) := by decide +kernel
theorem dX6_nextToken_135 : decode cX6_nextToken 135 = .ok (.getfield 18, 3) := by decide +kernel
theorem dX6_nextToken_138 : decode cX6_nextToken 138 = .ok (.aload_n 0, 1) := by decide +kernel
theorem dX6_nextToken_139 : decode cX6_nextToken 139 = .ok (.getfield 37, 3) := by decide +kernel
theorem dX6_nextToken_142 : decode cX6_nextToken 142 = .ok (.baload, 1) := by decide +kernel
theorem dX6_nextToken_143 : decode cX6_nextToken 143 = .ok (.invokestatic 72, 3) := by decide +kernel
theorem dX6_nextToken_146 : decode cX6_nextToken 146 = .ok (.aload_n 0, 1) := by decide +kernel
theorem dX6_nextToken_147 : decode cX6_nextToken 147 = .ok (.getfield 76, 3) := by decide +kernel
theorem dX6_nextToken_150 : decode cX6_nextToken 150 = .ok (.if_icmp .ne 16, 3) := by decide +kernel
theorem dX6_nextToken_153 : decode cX6_nextToken 153 = .ok (.aload_n 0, 1) := by decide +kernel
theorem dX6_nextToken_154 : decode cX6_nextToken 154 = .ok (.dup, 1) := by decide +kernel
theorem dX6_nextToken_155 : decode cX6_nextToken 155 = .ok (.getfield 37, 3) := by decide +kernel
theorem dX6_nextToken_158 : decode cX6_nextToken 158 = .ok (.iconst 1, 1) := by decide +kernel
theorem dX6_nextToken_159 : decode cX6_nextToken 159 = .ok (.iadd, 1) := by decide +kernel
theorem dX6_nextToken_160 : decode cX6_nextToken 160 = .ok (.putfield 37, 3) := by decide +kernel
theorem dX6_nextToken_163 : decode cX6_nextToken 163 = .ok (.goto (-56), 3) := by decide +kernel
theorem dX6_nextToken_166 : decode cX6_nextToken 166 = .ok (.aload_n 0, 1) := by decide +kernel
theorem dX6_nextToken_167 : decode cX6_nextToken 167 = .ok (.getfield 76, 3) := by decide +kernel
theorem dX6_nextToken_170 : decode cX6_nextToken 170 = .ok (.iconst 2, 1) := by decide +kernel
theorem dX6_nextToken_171 : decode cX6_nextToken 171 = .ok (.if_icmp .ne 21, 3) := by decide +kernel
theorem dX6_nextToken_174 : decode cX6_nextToken 174 = .ok (.aload_n 0, 1) := by decide +kernel
theorem dX6_nextToken_175 : decode cX6_nextToken 175 = .ok (.getfield 37, 3) := by decide +kernel
theorem dX6_nextToken_178 : decode cX6_nextToken 178 = .ok (.aload_n 0, 1) := by decide +kernel
theorem dX6_nextToken_179 : decode cX6_nextToken 179 = .ok (.getfield 65, 3) := by decide +kernel
theorem dX6_nextToken_182 : decode cX6_nextToken 182 = .ok (.isub, 1) := by decide +kernel
theorem dX6_nextToken_183 : decode cX6_nextToken 183 = .ok (.iconst 4, 1) := by decide +kernel
theorem dX6_nextToken_184 : decode cX6_nextToken 184 = .ok (.if_icmp .le 8, 3) := by decide +kernel
theorem dX6_nextToken_187 : decode cX6_nextToken 187 = .ok (.aload_n 0, 1) := by decide +kernel
theorem dX6_nextToken_188 : decode cX6_nextToken 188 = .ok (.iconst 0, 1) := by decide +kernel
theorem dX6_nextToken_189 : decode cX6_nextToken 189 = .ok (.putfield 76, 3) := by decide +kernel
theorem dX6_nextToken_192 : decode cX6_nextToken 192 = .ok (.iconst 1, 1) := by decide +kernel
theorem dX6_nextToken_193 : decode cX6_nextToken 193 = .ok (.ireturn, 1) := by decide +kernel
def pX6_nextToken_b166 (g : MT) (this : Nat) (h : CT) : Option ((Int32) × CT) := if (hI h this 6) = 2 then if ((hI h this 5) - (hI h this 4)) ≤ 4 then some (1, h) else lt (sI h this 6 0) fun h3 => (some (1, h3)) else some (1, h)
set_option maxRecDepth 10000 in
set_option maxHeartbeats 4000000 in
theorem pX6_nextToken_b166_ok {X : Cx} {G : Gx} {dk : Nat} {g : MT} {r0 : Int32} {h0 : CT} {this : Nat} (Z : Zx X G cX6_nextToken RX6 1 dk (some .boolean) (some (.int r0)) g h0) (hK : 1 ≤ dk) (t0 : gT g this = 5) (h : CT) (hf : pX6_nextToken_b166 g this h = some (r0, h0)) : J X g h 166 [(0, va_rf (some this))] [] := by
  unfold pX6_nextToken_b166 at hf
  refine J_aload_n Z.1 0 dX6_nextToken_166 rfl rfl ?_
  refine J_get (v := .int (hI h this 6)) Z.1 dX6_nextToken_167 fl_X6_76 t0 rfl ?_
  refine J_iconst Z.1 (v := 2) (by decide) dX6_nextToken_170 ?_
  refine J_icmp_ne Z.1 192 dX6_nextToken_171 (by decide) (fun c1 => ?_) (fun c1 => ?_)
  · rw [if_neg c1] at hf
    refine J_iconst Z.1 (v := 1) (by decide) dX6_nextToken_192 ?_
    cases hf
    exact J_zret Z.1 Z.2.2.2.2.2 (z_n (Or.inr rfl)) dX6_nextToken_193
  · rw [if_pos c1] at hf
    refine J_aload_n Z.1 0 dX6_nextToken_174 rfl rfl ?_
    refine J_get (v := .int (hI h this 5)) Z.1 dX6_nextToken_175 fl_X6_37 t0 rfl ?_
    refine J_aload_n Z.1 0 dX6_nextToken_178 rfl rfl ?_
    refine J_get (v := .int (hI h this 4)) Z.1 dX6_nextToken_179 fl_X6_65 t0 rfl ?_
    refine J_isub Z.1 dX6_nextToken_182 ?_
    refine J_iconst Z.1 (v := 4) (by decide) dX6_nextToken_183 ?_
    refine J_icmp_le Z.1 192 dX6_nextToken_184 (by decide) (fun c2 => ?_) (fun c2 => ?_)
    · rw [if_pos c2] at hf
      refine J_iconst Z.1 (v := 1) (by decide) dX6_nextToken_192 ?_
      cases hf
      exact J_zret Z.1 Z.2.2.2.2.2 (z_n (Or.inr rfl)) dX6_nextToken_193
    · rw [if_neg c2] at hf
      refine J_aload_n Z.1 0 dX6_nextToken_187 rfl rfl ?_
      refine J_iconst Z.1 (v := 0) (by decide) dX6_nextToken_188 ?_
      refine J_putI Z.1 dX6_nextToken_189 fl_X6_76 (fun q => by cases q) t0 rfl rfl (congrArg Value.int (hI_s _ _ _ _)) ?_
      refine J_th (fun h3 eh3 => ?_)
      replace hf := lt_i hf h3 eh3
      refine J_iconst Z.1 (v := 1) (by decide) dX6_nextToken_192 ?_
      cases hf
      exact J_zret Z.1 Z.2.2.2.2.2 (z_n (Or.inr rfl)) dX6_nextToken_193
def pX6_nextToken_b123 (g : MT) (this : Nat) (k107 : CT → Option ((Int32) × CT)) (h : CT) : Option ((Int32) × CT) := if (hI h this 3) ≤ (hI h this 5) then pX6_nextToken_b166 g this  h else lt (hR h this 2) fun r2 => (nn r2 fun a2 => (tg g a2 23 (ix (gL g a2) (hI h this 5) (if (pX6_sortOf (hI h a2 (Int32.toNatClampNeg (hI h this 5)))) = (hI h this 6) then lt (sI h this 5 ((hI h this 5) + 1)) fun h6 => (k107 h6) else pX6_nextToken_b166 g this  h))))
set_option maxRecDepth 10000 in
set_option maxHeartbeats 4000000 in
theorem pX6_nextToken_b123_ok {X : Cx} {G : Gx} {dk : Nat} {g : MT} {r0 : Int32} {h0 : CT} {this : Nat} {k107 : CT → Option ((Int32) × CT)} (Z : Zx X G cX6_nextToken RX6 1 dk (some .boolean) (some (.int r0)) g h0) (hK : 1 ≤ dk) (t0 : gT g this = 5) (hk107 : ∀ (h : CT), k107 h = some (r0, h0) → J X g h 107 [(0, va_rf (some this))] []) (h : CT) (hf : pX6_nextToken_b123 g this k107 h = some (r0, h0)) : J X g h 123 [(0, va_rf (some this))] [] := by
  unfold pX6_nextToken_b123 at hf
  refine J_aload_n Z.1 0 dX6_nextToken_123 rfl rfl ?_
  refine J_get (v := .int (hI h this 5)) Z.1 dX6_nextToken_124 fl_X6_37 t0 rfl ?_
  refine J_aload_n Z.1 0 dX6_nextToken_127 rfl rfl ?_
  refine J_get (v := .int (hI h this 3)) Z.1 dX6_nextToken_128 fl_X6_34 t0 rfl ?_
  refine J_icmp_ge Z.1 166 dX6_nextToken_131 (by decide) (fun c1 => ?_) (fun c1 => ?_)
  · rw [if_pos c1] at hf
    exact pX6_nextToken_b166_ok Z hK t0  _ hf
  · rw [if_neg c1] at hf
    refine J_aload_n Z.1 0 dX6_nextToken_134 rfl rfl ?_
    refine J_get (v := va_rf (hR h this 2)) Z.1 dX6_nextToken_135 fl_X6_18 t0 rfl ?_
    refine J_tr (fun r2 er2 => ?_)
    replace hf := lt_i hf r2 er2
    refine J_aload_n Z.1 0 dX6_nextToken_138 rfl rfl ?_
    refine J_get (v := .int (hI h this 5)) Z.1 dX6_nextToken_139 fl_X6_37 t0 rfl ?_
    replace hf := nn_i hf
    obtain ⟨a2, rfl, hf⟩ := hf
    replace hf := tg_i hf
    obtain ⟨t3, hf⟩ := hf
    replace hf := ix_i hf
    obtain ⟨i4, hf⟩ := hf
    refine J_baload Z.1 dX6_nextToken_142 t3 i4 ?_
    refine J_callS (as := [.int (hI h a2 (Int32.toNatClampNeg (hI h this 5)))]) (rest := []) (sy := [.int (pX6_sortOf (hI h a2 (Int32.toNatClampNeg (hI h this 5))))]) Z.1 dX6_nextToken_143 cw_X6_72 (pX6_sortOf_ok G (dk - 1) (by omega) g h (hI h a2 (Int32.toNatClampNeg (hI h this 5)))) (zG Z) rfl (by decide) (zF Z (by omega)) (zO Z (by omega) (by decide)) (zM _) Z.2.1 Z.2.1 rfl rfl ?_
    refine J_aload_n Z.1 0 dX6_nextToken_146 rfl rfl ?_
    refine J_get (v := .int (hI h this 6)) Z.1 dX6_nextToken_147 fl_X6_76 t0 rfl ?_
    refine J_icmp_ne Z.1 166 dX6_nextToken_150 (by decide) (fun c5 => ?_) (fun c5 => ?_)
    · rw [if_neg c5] at hf
      exact pX6_nextToken_b166_ok Z hK t0  _ hf
    · rw [if_pos c5] at hf
      refine J_aload_n Z.1 0 dX6_nextToken_153 rfl rfl ?_
      refine J_dup Z.1 dX6_nextToken_154 rfl ?_
      refine J_get (v := .int (hI h this 5)) Z.1 dX6_nextToken_155 fl_X6_37 t0 rfl ?_
      refine J_iconst Z.1 (v := 1) (by decide) dX6_nextToken_158 ?_
      refine J_iadd Z.1 dX6_nextToken_159 ?_
      refine J_putI Z.1 dX6_nextToken_160 fl_X6_37 (fun q => by cases q) t0 rfl rfl (congrArg Value.int (hI_s _ _ _ _)) ?_
      refine J_th (fun h6 eh6 => ?_)
      replace hf := lt_i hf h6 eh6
      refine J_goto Z.1 107 dX6_nextToken_163 (by decide) ?_
      exact hk107 _ hf
def pX6_nextToken_b107 (g : MT) (this : Nat) (k107 : CT → Option ((Int32) × CT)) (h : CT) : Option ((Int32) × CT) := if (hI h this 6) = 1 then pX6_nextToken_b123 g this k107 h else if (hI h this 6) = 2 then pX6_nextToken_b123 g this k107 h else pX6_nextToken_b166 g this  h
set_option maxRecDepth 10000 in
set_option maxHeartbeats 4000000 in
theorem pX6_nextToken_b107_ok {X : Cx} {G : Gx} {dk : Nat} {g : MT} {r0 : Int32} {h0 : CT} {this : Nat} {k107 : CT → Option ((Int32) × CT)} (Z : Zx X G cX6_nextToken RX6 1 dk (some .boolean) (some (.int r0)) g h0) (hK : 1 ≤ dk) (t0 : gT g this = 5) (hk107 : ∀ (h : CT), k107 h = some (r0, h0) → J X g h 107 [(0, va_rf (some this))] []) (h : CT) (hf : pX6_nextToken_b107 g this k107 h = some (r0, h0)) : J X g h 107 [(0, va_rf (some this))] [] := by
  unfold pX6_nextToken_b107 at hf
  refine J_aload_n Z.1 0 dX6_nextToken_107 rfl rfl ?_
  refine J_get (v := .int (hI h this 6)) Z.1 dX6_nextToken_108 fl_X6_76 t0 rfl ?_
  refine J_iconst Z.1 (v := 1) (by decide) dX6_nextToken_111 ?_
  refine J_icmp_eq Z.1 123 dX6_nextToken_112 (by decide) (fun c1 => ?_) (fun c1 => ?_)
  · rw [if_pos c1] at hf
    exact pX6_nextToken_b123_ok Z hK t0 hk107 _ hf
  · rw [if_neg c1] at hf
    refine J_aload_n Z.1 0 dX6_nextToken_115 rfl rfl ?_
    refine J_get (v := .int (hI h this 6)) Z.1 dX6_nextToken_116 fl_X6_76 t0 rfl ?_
    refine J_iconst Z.1 (v := 2) (by decide) dX6_nextToken_119 ?_
    refine J_icmp_ne Z.1 166 dX6_nextToken_120 (by decide) (fun c2 => ?_) (fun c2 => ?_)
    · rw [if_neg c2] at hf
      exact pX6_nextToken_b166_ok Z hK t0  _ hf
    · rw [if_pos c2] at hf
      exact pX6_nextToken_b123_ok Z hK t0 hk107 _ hf
def pX6_nextToken_l107 (g : MT) (this : Nat) : Nat → CT → Option ((Int32) × CT)
  | 0, _ => none
  | n + 1, h => pX6_nextToken_b107 g this (pX6_nextToken_l107 g this n) h
theorem pX6_nextToken_l107_ok {X : Cx} {G : Gx} {dk : Nat} {g : MT} {r0 : Int32} {h0 : CT} {this : Nat} (Z : Zx X G cX6_nextToken RX6 1 dk (some .boolean) (some (.int r0)) g h0) (hK : 1 ≤ dk) (t0 : gT g this = 5) : ∀ (n : Nat) (h : CT), pX6_nextToken_l107 g this n h = some (r0, h0) → J X g h 107 [(0, va_rf (some this))] [] := by
  intro n
  induction n with
  | zero => intro h hf; cases hf
  | succ n ih => intro h hf; exact pX6_nextToken_b107_ok Z hK t0 ih h hf
def pX6_nextToken_b60 (g : MT) (this : Nat) (h : CT) : Option ((Int32) × CT) := lt (sI h this 5 (hI h this 4)) fun h1 => (if (hI h1 this 4) < (hI h1 this 3) then lt (hR h1 this 2) fun r3 => (nn r3 fun a3 => (tg g a3 23 (ix (gL g a3) (hI h1 this 4) (lt (sI h1 this 6 (pX6_sortOf (hI h1 a3 (Int32.toNatClampNeg (hI h1 this 4))))) fun h6 => (lt (sI h6 this 5 ((hI h6 this 5) + 1)) fun h7 => (pX6_nextToken_l107 g this  FUEL h7)))))) else some (0, h1))
set_option maxRecDepth 10000 in
set_option maxHeartbeats 4000000 in
theorem pX6_nextToken_b60_ok {X : Cx} {G : Gx} {dk : Nat} {g : MT} {r0 : Int32} {h0 : CT} {this : Nat} (Z : Zx X G cX6_nextToken RX6 1 dk (some .boolean) (some (.int r0)) g h0) (hK : 1 ≤ dk) (t0 : gT g this = 5) (h : CT) (hf : pX6_nextToken_b60 g this h = some (r0, h0)) : J X g h 60 [(0, va_rf (some this))] [] := by
  unfold pX6_nextToken_b60 at hf
  refine J_aload_n Z.1 0 dX6_nextToken_60 rfl rfl ?_
  refine J_aload_n Z.1 0 dX6_nextToken_61 rfl rfl ?_
  refine J_get (v := .int (hI h this 4)) Z.1 dX6_nextToken_62 fl_X6_65 t0 rfl ?_
  refine J_putI Z.1 dX6_nextToken_65 fl_X6_37 (fun q => by cases q) t0 rfl rfl (congrArg Value.int (hI_s _ _ _ _)) ?_
  refine J_th (fun h1 eh1 => ?_)
  replace hf := lt_i hf h1 eh1
  refine J_aload_n Z.1 0 dX6_nextToken_68 rfl rfl ?_
  refine J_get (v := .int (hI h1 this 4)) Z.1 dX6_nextToken_69 fl_X6_65 t0 rfl ?_
  refine J_aload_n Z.1 0 dX6_nextToken_72 rfl rfl ?_
  refine J_get (v := .int (hI h1 this 3)) Z.1 dX6_nextToken_73 fl_X6_34 t0 rfl ?_
  refine J_icmp_lt Z.1 81 dX6_nextToken_76 (by decide) (fun c2 => ?_) (fun c2 => ?_)
  · rw [if_pos c2] at hf
    refine J_aload_n Z.1 0 dX6_nextToken_81 rfl rfl ?_
    refine J_aload_n Z.1 0 dX6_nextToken_82 rfl rfl ?_
    refine J_get (v := va_rf (hR h1 this 2)) Z.1 dX6_nextToken_83 fl_X6_18 t0 rfl ?_
    refine J_tr (fun r3 er3 => ?_)
    replace hf := lt_i hf r3 er3
    refine J_aload_n Z.1 0 dX6_nextToken_86 rfl rfl ?_
    refine J_get (v := .int (hI h1 this 4)) Z.1 dX6_nextToken_87 fl_X6_65 t0 rfl ?_
    replace hf := nn_i hf
    obtain ⟨a3, rfl, hf⟩ := hf
    replace hf := tg_i hf
    obtain ⟨t4, hf⟩ := hf
    replace hf := ix_i hf
    obtain ⟨i5, hf⟩ := hf
    refine J_baload Z.1 dX6_nextToken_90 t4 i5 ?_
    refine J_callS (as := [.int (hI h1 a3 (Int32.toNatClampNeg (hI h1 this 4)))]) (rest := [va_rf (some this)]) (sy := [.int (pX6_sortOf (hI h1 a3 (Int32.toNatClampNeg (hI h1 this 4)))), va_rf (some this)]) Z.1 dX6_nextToken_91 cw_X6_72 (pX6_sortOf_ok G (dk - 1) (by omega) g h1 (hI h1 a3 (Int32.toNatClampNeg (hI h1 this 4)))) (zG Z) rfl (by simp [cat_i, cat_l, cat_d, cat_rf]) (zF Z (by omega)) (zO Z (by omega) (by decide)) (zM _) Z.2.1 Z.2.1 rfl rfl ?_
    refine J_putI Z.1 dX6_nextToken_94 fl_X6_76 (fun q => by cases q) t0 rfl rfl (congrArg Value.int (hI_s _ _ _ _)) ?_
    refine J_th (fun h6 eh6 => ?_)
    replace hf := lt_i hf h6 eh6
    refine J_aload_n Z.1 0 dX6_nextToken_97 rfl rfl ?_
    refine J_dup Z.1 dX6_nextToken_98 rfl ?_
    refine J_get (v := .int (hI h6 this 5)) Z.1 dX6_nextToken_99 fl_X6_37 t0 rfl ?_
    refine J_iconst Z.1 (v := 1) (by decide) dX6_nextToken_102 ?_
    refine J_iadd Z.1 dX6_nextToken_103 ?_
    refine J_putI Z.1 dX6_nextToken_104 fl_X6_37 (fun q => by cases q) t0 rfl rfl (congrArg Value.int (hI_s _ _ _ _)) ?_
    refine J_th (fun h7 eh7 => ?_)
    replace hf := lt_i hf h7 eh7
    exact pX6_nextToken_l107_ok Z hK t0  FUEL _ hf
  · rw [if_neg c2] at hf
    refine J_iconst Z.1 (v := 0) (by decide) dX6_nextToken_79 ?_
    cases hf
    exact J_zret Z.1 Z.2.2.2.2.2 (z_n (Or.inl rfl)) dX6_nextToken_80
def pX6_nextToken_b47 (g : MT) (this : Nat) (k8 : CT → Option ((Int32) × CT)) (h : CT) : Option ((Int32) × CT) := lt (sI h this 4 ((hI h this 4) + 1)) fun h1 => (k8 h1)
set_option maxRecDepth 10000 in
set_option maxHeartbeats 4000000 in
theorem pX6_nextToken_b47_ok {X : Cx} {G : Gx} {dk : Nat} {g : MT} {r0 : Int32} {h0 : CT} {this : Nat} {k8 : CT → Option ((Int32) × CT)} (Z : Zx X G cX6_nextToken RX6 1 dk (some .boolean) (some (.int r0)) g h0) (hK : 1 ≤ dk) (t0 : gT g this = 5) (hk8 : ∀ (h : CT), k8 h = some (r0, h0) → J X g h 8 [(0, va_rf (some this))] []) (h : CT) (hf : pX6_nextToken_b47 g this k8 h = some (r0, h0)) : J X g h 47 [(0, va_rf (some this))] [] := by
  unfold pX6_nextToken_b47 at hf
  refine J_aload_n Z.1 0 dX6_nextToken_47 rfl rfl ?_
  refine J_dup Z.1 dX6_nextToken_48 rfl ?_
  refine J_get (v := .int (hI h this 4)) Z.1 dX6_nextToken_49 fl_X6_65 t0 rfl ?_
  refine J_iconst Z.1 (v := 1) (by decide) dX6_nextToken_52 ?_
  refine J_iadd Z.1 dX6_nextToken_53 ?_
  refine J_putI Z.1 dX6_nextToken_54 fl_X6_65 (fun q => by cases q) t0 rfl rfl (congrArg Value.int (hI_s _ _ _ _)) ?_
  refine J_th (fun h1 eh1 => ?_)
  replace hf := lt_i hf h1 eh1
  refine J_goto Z.1 8 dX6_nextToken_57 (by decide) ?_
  exact hk8 _ hf
def pX6_nextToken_b8 (g : MT) (this : Nat) (k8 : CT → Option ((Int32) × CT)) (h : CT) : Option ((Int32) × CT) := if (hI h this 3) ≤ (hI h this 4) then pX6_nextToken_b60 g this  h else lt (hR h this 2) fun r2 => (nn r2 fun a2 => (tg g a2 23 (ix (gL g a2) (hI h this 4) (if (hI h a2 (Int32.toNatClampNeg (hI h this 4))) = 10 then pX6_nextToken_b47 g this k8 h else lt (hR h this 2) fun r6 => (nn r6 fun a6 => (tg g a6 23 (ix (gL g a6) (hI h this 4) (if (hI h a6 (Int32.toNatClampNeg (hI h this 4))) = 32 then pX6_nextToken_b47 g this k8 h else pX6_nextToken_b60 g this  h))))))))
set_option maxRecDepth 10000 in
set_option maxHeartbeats 4000000 in
theorem pX6_nextToken_b8_ok {X : Cx} {G : Gx} {dk : Nat} {g : MT} {r0 : Int32} {h0 : CT} {this : Nat} {k8 : CT → Option ((Int32) × CT)} (Z : Zx X G cX6_nextToken RX6 1 dk (some .boolean) (some (.int r0)) g h0) (hK : 1 ≤ dk) (t0 : gT g this = 5) (hk8 : ∀ (h : CT), k8 h = some (r0, h0) → J X g h 8 [(0, va_rf (some this))] []) (h : CT) (hf : pX6_nextToken_b8 g this k8 h = some (r0, h0)) : J X g h 8 [(0, va_rf (some this))] [] := by
  unfold pX6_nextToken_b8 at hf
  refine J_aload_n Z.1 0 dX6_nextToken_8 rfl rfl ?_
  refine J_get (v := .int (hI h this 4)) Z.1 dX6_nextToken_9 fl_X6_65 t0 rfl ?_
  refine J_aload_n Z.1 0 dX6_nextToken_12 rfl rfl ?_
  refine J_get (v := .int (hI h this 3)) Z.1 dX6_nextToken_13 fl_X6_34 t0 rfl ?_
  refine J_icmp_ge Z.1 60 dX6_nextToken_16 (by decide) (fun c1 => ?_) (fun c1 => ?_)
  · rw [if_pos c1] at hf
    exact pX6_nextToken_b60_ok Z hK t0  _ hf
  · rw [if_neg c1] at hf
    refine J_aload_n Z.1 0 dX6_nextToken_19 rfl rfl ?_
    refine J_get (v := va_rf (hR h this 2)) Z.1 dX6_nextToken_20 fl_X6_18 t0 rfl ?_
    refine J_tr (fun r2 er2 => ?_)
    replace hf := lt_i hf r2 er2
    refine J_aload_n Z.1 0 dX6_nextToken_23 rfl rfl ?_
    refine J_get (v := .int (hI h this 4)) Z.1 dX6_nextToken_24 fl_X6_65 t0 rfl ?_
    replace hf := nn_i hf
    obtain ⟨a2, rfl, hf⟩ := hf
    replace hf := tg_i hf
    obtain ⟨t3, hf⟩ := hf
    replace hf := ix_i hf
    obtain ⟨i4, hf⟩ := hf
    refine J_baload Z.1 dX6_nextToken_27 t3 i4 ?_
    refine J_bipush Z.1 (v := 10) (by decide) dX6_nextToken_28 ?_
    refine J_icmp_eq Z.1 47 dX6_nextToken_30 (by decide) (fun c5 => ?_) (fun c5 => ?_)
    · rw [if_pos c5] at hf
      exact pX6_nextToken_b47_ok Z hK t0 hk8 _ hf
    · rw [if_neg c5] at hf
      refine J_aload_n Z.1 0 dX6_nextToken_33 rfl rfl ?_
      refine J_get (v := va_rf (hR h this 2)) Z.1 dX6_nextToken_34 fl_X6_18 t0 rfl ?_
      refine J_tr (fun r6 er6 => ?_)
      replace hf := lt_i hf r6 er6
      refine J_aload_n Z.1 0 dX6_nextToken_37 rfl rfl ?_
      refine J_get (v := .int (hI h this 4)) Z.1 dX6_nextToken_38 fl_X6_65 t0 rfl ?_
      replace hf := nn_i hf
      obtain ⟨a6, rfl, hf⟩ := hf
      replace hf := tg_i hf
      obtain ⟨t7, hf⟩ := hf
      replace hf := ix_i hf
      obtain ⟨i8, hf⟩ := hf
      refine J_baload Z.1 dX6_nextToken_41 t7 i8 ?_
      refine J_bipush Z.1 (v := 32) (by decide) dX6_nextToken_42 ?_
      refine J_icmp_ne Z.1 60 dX6_nextToken_44 (by decide) (fun c9 => ?_) (fun c9 => ?_)
      · rw [if_neg c9] at hf
        exact pX6_nextToken_b60_ok Z hK t0  _ hf
      · rw [if_pos c9] at hf
        exact pX6_nextToken_b47_ok Z hK t0 hk8 _ hf
def pX6_nextToken_l8 (g : MT) (this : Nat) : Nat → CT → Option ((Int32) × CT)
  | 0, _ => none
  | n + 1, h => pX6_nextToken_b8 g this (pX6_nextToken_l8 g this n) h
theorem pX6_nextToken_l8_ok {X : Cx} {G : Gx} {dk : Nat} {g : MT} {r0 : Int32} {h0 : CT} {this : Nat} (Z : Zx X G cX6_nextToken RX6 1 dk (some .boolean) (some (.int r0)) g h0) (hK : 1 ≤ dk) (t0 : gT g this = 5) : ∀ (n : Nat) (h : CT), pX6_nextToken_l8 g this n h = some (r0, h0) → J X g h 8 [(0, va_rf (some this))] [] := by
  intro n
  induction n with
  | zero => intro h hf; cases hf
  | succ n ih => intro h hf; exact pX6_nextToken_b8_ok Z hK t0 ih h hf
def pX6_nextToken (g : MT) (h : CT) (this : Nat) : Option ((Int32) × CT) := tg g this 5 (lt (sI h this 4 (hI h this 5)) fun h1 => (pX6_nextToken_l8 g this  FUEL h1))
set_option maxRecDepth 10000 in
set_option maxHeartbeats 4000000 in
theorem pX6_nextToken_ok (G : Gx) (dk : Nat) (hK : 1 ≤ dk) {g : MT} {h h0 : CT} {this : Nat} {r0 : Int32} (hf : pX6_nextToken g h this = some (r0, h0)) : Ctr G dk yX6_nextToken cX6_nextToken 1 (some .boolean) [va_rf (some this)] g h (some (.int r0)) g h0 := by
  refine Ctr.ofZ (lv := [(0, va_rf (some this))]) (by decide +kernel) (by simp [cat_i, cat_l, cat_d, cat_rf]) rfl fun X Z => ?_
  unfold pX6_nextToken at hf
  replace hf := tg_i hf
  obtain ⟨t0, hf⟩ := hf
  refine J_aload_n Z.1 0 dX6_nextToken_0 rfl rfl ?_
  refine J_aload_n Z.1 0 dX6_nextToken_1 rfl rfl ?_
  refine J_get (v := .int (hI h this 5)) Z.1 dX6_nextToken_2 fl_X6_37 t0 rfl ?_
  refine J_putI Z.1 dX6_nextToken_5 fl_X6_65 (fun q => by cases q) t0 rfl rfl (congrArg Value.int (hI_s _ _ _ _)) ?_
  refine J_th (fun h1 eh1 => ?_)
  replace hf := lt_i hf h1 eh1
  exact pX6_nextToken_l8_ok Z hK t0  FUEL _ hf
theorem dX6_beginInstruction_0 : decode cX6_beginInstruction 0 = .ok (.aload_n 0, 1) := by decide +kernel
theorem dX6_beginInstruction_1 : decode cX6_beginInstruction 1 = .ok (.invokevirtual 85, 3) := by decide +kernel
theorem dX6_beginInstruction_4 : decode cX6_beginInstruction 4 = .ok (.astore_n 1, 1) := by decide +kernel
theorem dX6_beginInstruction_5 : decode cX6_beginInstruction 5 = .ok (.aload_n 1, 1) := by decide +kernel
theorem dX6_beginInstruction_6 : decode cX6_beginInstruction 6 = .ok (.ifnull 17, 3) := by decide +kernel
theorem dX6_beginInstruction_9 : decode cX6_beginInstruction 9 = .ok (.aload_n 1, 1) := by decide +kernel
theorem dX6_beginInstruction_10 : decode cX6_beginInstruction 10 = .ok (.getstatic 89, 3) := by decide +kernel
theorem dX6_beginInstruction_13 : decode cX6_beginInstruction 13 = .ok (.if_acmp .ne 12, 3) := by decide +kernel
theorem dX6_beginInstruction_16 : decode cX6_beginInstruction 16 = .ok (.aload_n 0, 1) := by decide +kernel
theorem dX6_beginInstruction_17 : decode cX6_beginInstruction 17 = .ok (.getfield 54, 3) := by decide +kernel
theorem dX6_beginInstruction_20 : decode cX6_beginInstruction 20 = .ok (.ifnonnull 5, 3) := by decide +kernel
theorem dX6_beginInstruction_23 : decode cX6_beginInstruction 23 = .ok (.iconst 2, 1) := by decide +kernel
theorem dX6_beginInstruction_24 : decode cX6_beginInstruction 24 = .ok (.ireturn, 1) := by decide +kernel
theorem dX6_beginInstruction_25 : decode cX6_beginInstruction 25 = .ok (.aload_n 0, 1) := by decide +kernel
theorem dX6_beginInstruction_26 : decode cX6_beginInstruction 26 = .ok (.aload_n 1, 1) := by decide +kernel
theorem dX6_beginInstruction_27 : decode cX6_beginInstruction 27 = .ok (.getfield 95, 3) := by decide +kernel
theorem dX6_beginInstruction_30 : decode cX6_beginInstruction 30 = .ok (.putfield 24, 3) := by decide +kernel
theorem dX6_beginInstruction_33 : decode cX6_beginInstruction 33 = .ok (.aload_n 0, 1) := by decide +kernel
theorem dX6_beginInstruction_34 : decode cX6_beginInstruction 34 = .ok (.iconst 0, 1) := by decide +kernel
theorem dX6_beginInstruction_35 : decode cX6_beginInstruction 35 = .ok (.putfield 51, 3) := by decide +kernel
theorem dX6_beginInstruction_38 : decode cX6_beginInstruction 38 = .ok (.aload_n 1, 1) := by decide +kernel
theorem dX6_beginInstruction_39 : decode cX6_beginInstruction 39 = .ok (.getstatic 89, 3) := by decide +kernel
theorem dX6_beginInstruction_42 : decode cX6_beginInstruction 42 = .ok (.if_acmp .ne 29, 3) := by decide +kernel
theorem dX6_beginInstruction_45 : decode cX6_beginInstruction 45 = .ok (.aload_n 0, 1) := by decide +kernel
theorem dX6_beginInstruction_46 : decode cX6_beginInstruction 46 = .ok (.getfield 54, 3) := by decide +kernel
theorem dX6_beginInstruction_49 : decode cX6_beginInstruction 49 = .ok (.aload_n 0, 1) := by decide +kernel
theorem dX6_beginInstruction_50 : decode cX6_beginInstruction 50 = .ok (.getfield 43, 3) := by decide +kernel
theorem dX6_beginInstruction_53 : decode cX6_beginInstruction 53 = .ok (.getfield 96, 3) := by decide +kernel
theorem dX6_beginInstruction_56 : decode cX6_beginInstruction 56 = .ok (.putfield 99, 3) := by decide +kernel
theorem dX6_beginInstruction_59 : decode cX6_beginInstruction 59 = .ok (.aload_n 0, 1) := by decide +kernel
theorem dX6_beginInstruction_60 : decode cX6_beginInstruction 60 = .ok (.aconst_null, 1) := by decide +kernel
theorem dX6_beginInstruction_61 : decode cX6_beginInstruction 61 = .ok (.putfield 54, 3) := by decide +kernel
theorem dX6_beginInstruction_64 : decode cX6_beginInstruction 64 = .ok (.aload_n 0, 1) := by decide +kernel
theorem dX6_beginInstruction_65 : decode cX6_beginInstruction 65 = .ok (.aconst_null, 1) := by decide +kernel
theorem dX6_beginInstruction_66 : decode cX6_beginInstruction 66 = .ok (.putfield 47, 3) := by decide +kernel
theorem dX6_beginInstruction_69 : decode cX6_beginInstruction 69 = .ok (.iconst 0, 1) := by decide +kernel
theorem dX6_beginInstruction_70 : decode cX6_beginInstruction 70 = .ok (.ireturn, 1) := by decide +kernel
theorem dX6_beginInstruction_71 : decode cX6_beginInstruction 71 = .ok (.aload_n 0, 1) := by decide +kernel
theorem dX6_beginInstruction_72 : decode cX6_beginInstruction 72 = .ok (.getfield 43, 3) := by decide +kernel
theorem dX6_beginInstruction_75 : decode cX6_beginInstruction 75 = .ok (.getfield 96, 3) := by decide +kernel
theorem dX6_beginInstruction_78 : decode cX6_beginInstruction 78 = .ok (.bipush 30, 2) := by decide +kernel
theorem dX6_beginInstruction_80 : decode cX6_beginInstruction 80 = .ok (.if_icmp .lt 6, 3) := by decide +kernel
theorem dX6_beginInstruction_83 : decode cX6_beginInstruction 83 = .ok (.bipush 6, 2) := by decide +kernel
theorem dX6_beginInstruction_85 : decode cX6_beginInstruction 85 = .ok (.ireturn, 1) := by decide +kernel
theorem dX6_beginInstruction_86 : decode cX6_beginInstruction 86 = .ok (.aload_n 1, 1) := by decide +kernel
theorem dX6_beginInstruction_87 : decode cX6_beginInstruction 87 = .ok (.getstatic 104, 3) := by decide +kernel
theorem dX6_beginInstruction_90 : decode cX6_beginInstruction 90 = .ok (.if_acmp .ne 13, 3) := by decide +kernel
theorem dX6_beginInstruction_93 : decode cX6_beginInstruction 93 = .ok (.aload_n 0, 1) := by decide +kernel
theorem dX6_beginInstruction_94 : decode cX6_beginInstruction 94 = .ok (.getfield 54, 3) := by decide +kernel
theorem dX6_beginInstruction_97 : decode cX6_beginInstruction 97 = .ok (.ifnull 6, 3) := by decide +kernel
theorem dX6_beginInstruction_100 : decode cX6_beginInstruction 100 = .ok (.bipush 7, 2) := by decide +kernel
theorem dX6_beginInstruction_102 : decode cX6_beginInstruction 102 = .ok (.ireturn, 1) := by decide +kernel
theorem dX6_beginInstruction_103 : decode cX6_beginInstruction 103 = .ok (.aload_n 0, 1) := by decide +kernel
theorem dX6_beginInstruction_104 : decode cX6_beginInstruction 104 = .ok (.aload_n 0, 1) := by decide +kernel
theorem dX6_beginInstruction_105 : decode cX6_beginInstruction 105 = .ok (.getfield 43, 3) := by decide +kernel
theorem dX6_beginInstruction_108 : decode cX6_beginInstruction 108 = .ok (.aload_n 1, 1) := by decide +kernel
theorem dX6_beginInstruction_109 : decode cX6_beginInstruction 109 = .ok (.invokevirtual 107, 3) := by decide +kernel
theorem dX6_beginInstruction_112 : decode cX6_beginInstruction 112 = .ok (.putfield 47, 3) := by decide +kernel
theorem dX6_beginInstruction_115 : decode cX6_beginInstruction 115 = .ok (.aload_n 1, 1) := by decide +kernel
theorem dX6_beginInstruction_116 : decode cX6_beginInstruction 116 = .ok (.getstatic 104, 3) := by decide +kernel
theorem dX6_beginInstruction_119 : decode cX6_beginInstruction 119 = .ok (.if_acmp .ne 11, 3) := by decide +kernel
theorem dX6_beginInstruction_122 : decode cX6_beginInstruction 122 = .ok (.aload_n 0, 1) := by decide +kernel
theorem dX6_beginInstruction_123 : decode cX6_beginInstruction 123 = .ok (.aload_n 0, 1) := by decide +kernel
theorem dX6_beginInstruction_124 : decode cX6_beginInstruction 124 = .ok (.getfield 47, 3) := by decide +kernel
theorem dX6_beginInstruction_127 : decode cX6_beginInstruction 127 = .ok (.putfield 54, 3) := by decide +kernel
theorem dX6_beginInstruction_130 : decode cX6_beginInstruction 130 = .ok (.iconst 0, 1) := by decide +kernel
theorem dX6_beginInstruction_131 : decode cX6_beginInstruction 131 = .ok (.ireturn, 1) := by decide +kernel
def pX6_beginInstruction_b103 (E : EC) (this : Nat) (r91 : Option Nat) (g : MT) (h : CT) : Option ((Int32) × MT × CT) := tg g this 5 (lt (hR h this 7) fun r2 => (nn r2 fun a2 => (tg g a2 6 (nn r91 fun a91 => (bd3 (pX7_append g h a2 a91) fun r8 g4 h5 => (gq (fun z => z.2.1) g4 (tg g4 this 5 (lt (sR h5 this 8 r8) fun h11 => (kR (E.1 30) fun a12 => (if (some a91) = (some a12) then lt (hR h11 this 8) fun r14 => (lt (sR h11 this 11 r14) fun h15 => (some (0, g4, h15))) else some (0, g4, h11)))))))))))
set_option maxRecDepth 10000 in
set_option maxHeartbeats 4000000 in
theorem pX6_beginInstruction_b103_ok {X : Cx} {G : Gx} {dk : Nat} {g0 : MT} {r0 : Int32} {h0 : CT} {this : Nat} (Z : Zy X G cX6_beginInstruction RX6 2 dk (some .int) (some (.int r0)) "beginInstruction" g0 h0) (hK : 6 ≤ dk) {E : EC} (hE : G.2.2.2 = E) (r91 : Option Nat) (g : MT) (h : CT) (M : RM X g) (hf : pX6_beginInstruction_b103 E this r91 g h = some (r0, g0, h0)) : J X g h 103 [(0, va_rf (some this)), (1, va_rf r91)] [] := by
  unfold pX6_beginInstruction_b103 at hf
  refine J_aload_n Z.1 0 dX6_beginInstruction_103 rfl rfl ?_
  refine J_aload_n Z.1 0 dX6_beginInstruction_104 rfl rfl ?_
  replace hf := tg_i hf
  obtain ⟨t1, hf⟩ := hf
  refine J_get (v := va_rf (hR h this 7)) Z.1 dX6_beginInstruction_105 fl_X6_43 t1 rfl ?_
  refine J_tr (fun r2 er2 => ?_)
  replace hf := lt_i hf r2 er2
  refine J_aload_n Z.1 1 dX6_beginInstruction_108 rfl rfl ?_
  replace hf := nn_i hf
  obtain ⟨a2, rfl, hf⟩ := hf
  replace hf := tg_i hf
  obtain ⟨t3, hf⟩ := hf
  replace hf := nn_i hf
  obtain ⟨a91, rfl, hf⟩ := hf
  replace hf := bd3_i hf
  obtain ⟨r8, g4, h5, q6, hf⟩ := hf
  replace hf := gq_i hf
  obtain ⟨n7, hf⟩ := hf
  have M9o := pX7_append_mono q6
  have M9 := rmC Z M M9o n7
  refine J_callV (ci := 5) (as := [va_rf (some a91)]) (rest := [va_rf (some this)]) (sy := [va_rf r8, va_rf (some this)]) Z.1 dX6_beginInstruction_109 cw_X6_107 (pX7_append_ok G (dk - 1) (by omega) q6) rfl rfl t3 (yG Z) rfl (by simp [cat_i, cat_l, cat_d, cat_rf]) (yF Z (by omega)) (yO Z (by omega) (by decide)) M9o M M9 rfl rfl ?_
  replace hf := tg_i hf
  obtain ⟨t10, hf⟩ := hf
  refine J_putR Z.1 dX6_beginInstruction_112 fl_X6_47 (fun q => by cases q) t10 (Or.inl ⟨_, rfl⟩) ?_
  refine J_th (fun h11 eh11 => ?_)
  replace hf := lt_i hf h11 eh11
  refine J_aload_n Z.1 1 dX6_beginInstruction_115 rfl rfl ?_
  replace hf := kR_i hf
  obtain ⟨a12, ea12, hf⟩ := hf
  refine J_gets (i := 30) (v := va_rf (some a12)) Z.1 dX6_beginInstruction_116 rfl q_751 (yEv Z hE ea12) rfl ?_
  refine J_acmp_ne Z.1 130 dX6_beginInstruction_119 (by decide) (fun c13 => ?_) (fun c13 => ?_)
  · rw [if_neg c13] at hf
    refine J_iconst Z.1 (v := 0) (by decide) dX6_beginInstruction_130 ?_
    cases hf
    exact J_iret Z.1 Z.2.2.2.2.1 dX6_beginInstruction_131
  · rw [if_pos c13] at hf
    refine J_aload_n Z.1 0 dX6_beginInstruction_122 rfl rfl ?_
    refine J_aload_n Z.1 0 dX6_beginInstruction_123 rfl rfl ?_
    refine J_get (v := va_rf (hR h11 this 8)) Z.1 dX6_beginInstruction_124 fl_X6_47 t10 rfl ?_
    refine J_tr (fun r14 er14 => ?_)
    replace hf := lt_i hf r14 er14
    refine J_putR Z.1 dX6_beginInstruction_127 fl_X6_54 (fun q => by cases q) t10 (Or.inl ⟨_, rfl⟩) ?_
    refine J_th (fun h15 eh15 => ?_)
    replace hf := lt_i hf h15 eh15
    refine J_iconst Z.1 (v := 0) (by decide) dX6_beginInstruction_130 ?_
    cases hf
    exact J_iret Z.1 Z.2.2.2.2.1 dX6_beginInstruction_131
def pX6_beginInstruction_b25 (E : EC) (this : Nat) (r91 : Option Nat) (g : MT) (h : CT) : Option ((Int32) × MT × CT) := nn r91 fun a91 => (tg E.2.2 a91 60 (lt (hR E.2.1 a91 4) fun r2 => (tg g this 5 (lt (sR h this 9 r2) fun h4 => (lt (sI h4 this 10 0) fun h5 => (kR (E.1 32) fun a6 => (if (some a91) = (some a6) then lt (hR h5 this 11) fun r15 => (lt (hR h5 this 7) fun r16 => (nn r16 fun a16 => (tg g a16 6 (nn r15 fun a15 => (tg g a15 2 (lt (sI h5 a15 9 (hI h5 a16 1)) fun h19 => (lt (sR h19 this 11 none) fun h20 => (lt (sR h20 this 8 none) fun h21 => (some (0, g, h21)))))))))) else lt (hR h5 this 7) fun r8 => (nn r8 fun a8 => (tg g a8 6 (if (hI h5 a8 1) < 30 then kR (E.1 30) fun a11 => (if (some a91) = (some a11) then lt (hR h5 this 11) fun r13 => (if r13 = none then pX6_beginInstruction_b103 E this  (some a91) g h5 else some (7, g, h5)) else pX6_beginInstruction_b103 E this  (some a91) g h5) else some (6, g, h5)))))))))))
set_option maxRecDepth 10000 in
set_option maxHeartbeats 4000000 in
theorem pX6_beginInstruction_b25_ok {X : Cx} {G : Gx} {dk : Nat} {g0 : MT} {r0 : Int32} {h0 : CT} {this : Nat} (Z : Zy X G cX6_beginInstruction RX6 2 dk (some .int) (some (.int r0)) "beginInstruction" g0 h0) (hK : 6 ≤ dk) {E : EC} (hE : G.2.2.2 = E) (r91 : Option Nat) (g : MT) (h : CT) (M : RM X g) (hf : pX6_beginInstruction_b25 E this r91 g h = some (r0, g0, h0)) : J X g h 25 [(0, va_rf (some this)), (1, va_rf r91)] [] := by
  unfold pX6_beginInstruction_b25 at hf
  refine J_aload_n Z.1 0 dX6_beginInstruction_25 rfl rfl ?_
  refine J_aload_n Z.1 1 dX6_beginInstruction_26 rfl rfl ?_
  replace hf := nn_i hf
  obtain ⟨a91, rfl, hf⟩ := hf
  replace hf := tg_i hf
  obtain ⟨t1, hf⟩ := hf
  rw [← yE Z hE] at t1
  refine J_getO (k := 4) (v := va_rf (hR E.2.1 a91 4)) Z.1 dX6_beginInstruction_27 rfl t1 q_2179 (by rw [yE Z hE]; rfl) (cn_rf _) ?_
  refine J_tr (fun r2 er2 => ?_)
  replace hf := lt_i hf r2 er2
  replace hf := tg_i hf
  obtain ⟨t3, hf⟩ := hf
  refine J_putR Z.1 dX6_beginInstruction_30 fl_X6_24 (fun q => by cases q) t3 (Or.inl ⟨_, rfl⟩) ?_
  refine J_th (fun h4 eh4 => ?_)
  replace hf := lt_i hf h4 eh4
  refine J_aload_n Z.1 0 dX6_beginInstruction_33 rfl rfl ?_
  refine J_iconst Z.1 (v := 0) (by decide) dX6_beginInstruction_34 ?_
  refine J_putI Z.1 dX6_beginInstruction_35 fl_X6_51 (fun q => by cases q) t3 rfl rfl (congrArg Value.int (hI_s _ _ _ _)) ?_
  refine J_th (fun h5 eh5 => ?_)
  replace hf := lt_i hf h5 eh5
  refine J_aload_n Z.1 1 dX6_beginInstruction_38 rfl rfl ?_
  replace hf := kR_i hf
  obtain ⟨a6, ea6, hf⟩ := hf
  refine J_gets (i := 32) (v := va_rf (some a6)) Z.1 dX6_beginInstruction_39 rfl q_749 (yEv Z hE ea6) rfl ?_
  refine J_acmp_ne Z.1 71 dX6_beginInstruction_42 (by decide) (fun c7 => ?_) (fun c7 => ?_)
  · rw [if_neg c7] at hf
    refine J_aload_n Z.1 0 dX6_beginInstruction_71 rfl rfl ?_
    refine J_get (v := va_rf (hR h5 this 7)) Z.1 dX6_beginInstruction_72 fl_X6_43 t3 rfl ?_
    refine J_tr (fun r8 er8 => ?_)
    replace hf := lt_i hf r8 er8
    replace hf := nn_i hf
    obtain ⟨a8, rfl, hf⟩ := hf
    replace hf := tg_i hf
    obtain ⟨t9, hf⟩ := hf
    refine J_get (v := .int (hI h5 a8 1)) Z.1 dX6_beginInstruction_75 fl_X6_96 t9 rfl ?_
    refine J_bipush Z.1 (v := 30) (by decide) dX6_beginInstruction_78 ?_
    refine J_icmp_lt Z.1 86 dX6_beginInstruction_80 (by decide) (fun c10 => ?_) (fun c10 => ?_)
    · rw [if_pos c10] at hf
      refine J_aload_n Z.1 1 dX6_beginInstruction_86 rfl rfl ?_
      replace hf := kR_i hf
      obtain ⟨a11, ea11, hf⟩ := hf
      refine J_gets (i := 30) (v := va_rf (some a11)) Z.1 dX6_beginInstruction_87 rfl q_751 (yEv Z hE ea11) rfl ?_
      refine J_acmp_ne Z.1 103 dX6_beginInstruction_90 (by decide) (fun c12 => ?_) (fun c12 => ?_)
      · rw [if_neg c12] at hf
        exact pX6_beginInstruction_b103_ok Z hK hE  _ _ _ M hf
      · rw [if_pos c12] at hf
        refine J_aload_n Z.1 0 dX6_beginInstruction_93 rfl rfl ?_
        refine J_get (v := va_rf (hR h5 this 11)) Z.1 dX6_beginInstruction_94 fl_X6_54 t3 rfl ?_
        refine J_tr (fun r13 er13 => ?_)
        replace hf := lt_i hf r13 er13
        refine J_ifnull Z.1 103 dX6_beginInstruction_97 (by decide) (fun c14 => ?_) (fun c14 => ?_)
        · rw [if_pos c14] at hf
          exact pX6_beginInstruction_b103_ok Z hK hE  _ _ _ M hf
        · rw [if_neg c14] at hf
          refine J_bipush Z.1 (v := 7) (by decide) dX6_beginInstruction_100 ?_
          cases hf
          exact J_iret Z.1 Z.2.2.2.2.1 dX6_beginInstruction_102
    · rw [if_neg c10] at hf
      refine J_bipush Z.1 (v := 6) (by decide) dX6_beginInstruction_83 ?_
      cases hf
      exact J_iret Z.1 Z.2.2.2.2.1 dX6_beginInstruction_85
  · rw [if_pos c7] at hf
    refine J_aload_n Z.1 0 dX6_beginInstruction_45 rfl rfl ?_
    refine J_get (v := va_rf (hR h5 this 11)) Z.1 dX6_beginInstruction_46 fl_X6_54 t3 rfl ?_
    refine J_tr (fun r15 er15 => ?_)
    replace hf := lt_i hf r15 er15
    refine J_aload_n Z.1 0 dX6_beginInstruction_49 rfl rfl ?_
    refine J_get (v := va_rf (hR h5 this 7)) Z.1 dX6_beginInstruction_50 fl_X6_43 t3 rfl ?_
    refine J_tr (fun r16 er16 => ?_)
    replace hf := lt_i hf r16 er16
    replace hf := nn_i hf
    obtain ⟨a16, rfl, hf⟩ := hf
    replace hf := tg_i hf
    obtain ⟨t17, hf⟩ := hf
    refine J_get (v := .int (hI h5 a16 1)) Z.1 dX6_beginInstruction_53 fl_X6_96 t17 rfl ?_
    replace hf := nn_i hf
    obtain ⟨a15, rfl, hf⟩ := hf
    replace hf := tg_i hf
    obtain ⟨t18, hf⟩ := hf
    refine J_putI Z.1 dX6_beginInstruction_56 fl_X6_99 (fun q => by cases q) t18 rfl rfl (congrArg Value.int (hI_s _ _ _ _)) ?_
    refine J_th (fun h19 eh19 => ?_)
    replace hf := lt_i hf h19 eh19
    refine J_aload_n Z.1 0 dX6_beginInstruction_59 rfl rfl ?_
    refine J_null Z.1 dX6_beginInstruction_60 ?_
    refine J_putR Z.1 dX6_beginInstruction_61 fl_X6_54 (fun q => by cases q) t3 (Or.inl ⟨_, rfl⟩) ?_
    refine J_th (fun h20 eh20 => ?_)
    replace hf := lt_i hf h20 eh20
    refine J_aload_n Z.1 0 dX6_beginInstruction_64 rfl rfl ?_
    refine J_null Z.1 dX6_beginInstruction_65 ?_
    refine J_putR Z.1 dX6_beginInstruction_66 fl_X6_47 (fun q => by cases q) t3 (Or.inl ⟨_, rfl⟩) ?_
    refine J_th (fun h21 eh21 => ?_)
    replace hf := lt_i hf h21 eh21
    refine J_iconst Z.1 (v := 0) (by decide) dX6_beginInstruction_69 ?_
    cases hf
    exact J_iret Z.1 Z.2.2.2.2.1 dX6_beginInstruction_70
def pX6_beginInstruction (E : EC) (g : MT) (h : CT) (this : Nat) : Option ((Int32) × MT × CT) := gq (fun z => z.2.1) g (tg g this 5 (bd2 (pX6_opNamed E g h this) fun r4 h2 => (if r4 = none then some (2, g, h2) else kR (E.1 32) fun a6 => (if r4 = (some a6) then lt (hR h2 this 11) fun r8 => (if r8 = none then some (2, g, h2) else pX6_beginInstruction_b25 E this  r4 g h2) else pX6_beginInstruction_b25 E this  r4 g h2))))
theorem pX6_beginInstruction_mono {E : EC} {g g0 : MT} {h h0 : CT} {this : Nat} {r0 : Int32} (hf : pX6_beginInstruction E g h this = some (r0, g0, h0)) : gN g ≤ gN g0 ∧ gU g ≤ gU g0 := by
  unfold pX6_beginInstruction at hf
  exact (gq_i hf).1
set_option maxRecDepth 10000 in
set_option maxHeartbeats 4000000 in
theorem pX6_beginInstruction_ok (G : Gx) (dk : Nat) (hK : 6 ≤ dk) {E : EC} (hE : G.2.2.2 = E) {g g0 : MT} {h h0 : CT} {this : Nat} {r0 : Int32} (hf : pX6_beginInstruction E g h this = some (r0, g0, h0)) : Ctr G dk yX6_beginInstruction cX6_beginInstruction 2 (some .int) [va_rf (some this)] g h (some (.int r0)) g0 h0 := by
  unfold pX6_beginInstruction at hf
  replace hf := gq_i hf
  obtain ⟨hm, hf⟩ := hf
  refine Ctr.ofY (lv := [(0, va_rf (some this))]) (by decide +kernel) (by simp [cat_i, cat_l, cat_d, cat_rf]) rfl hm fun X Z M => ?_
  refine J_aload_n Z.1 0 dX6_beginInstruction_0 rfl rfl ?_
  replace hf := tg_i hf
  obtain ⟨t1, hf⟩ := hf
  replace hf := bd2_i hf
  obtain ⟨r4, h2, q3, hf⟩ := hf
  refine J_callV (ci := 4) (as := []) (rest := []) (sy := [va_rf r4]) Z.1 dX6_beginInstruction_1 cw_X6_85 (pX6_opNamed_ok G (dk - 1) (by omega) hE q3) rfl rfl t1 (yG Z) rfl (by decide) (yF Z (by omega)) (yO Z (by omega) (by decide)) (zM _) M M rfl rfl ?_
  refine J_astore_n Z.1 (lv2 := [(1, va_rf r4), (0, va_rf (some this))]) dX6_beginInstruction_4 rfl (yL Z (by decide)) rfl ?_
  refine J_aload_n Z.1 0 dX6_beginInstruction_5 rfl rfl ?_
  refine J_ifnull Z.1 23 dX6_beginInstruction_6 (by decide) (fun c5 => ?_) (fun c5 => ?_)
  · rw [if_pos c5] at hf
    refine J_iconst Z.1 (v := 2) (by decide) dX6_beginInstruction_23 ?_
    cases hf
    exact J_iret Z.1 Z.2.2.2.2.1 dX6_beginInstruction_24
  · rw [if_neg c5] at hf
    refine J_aload_n Z.1 0 dX6_beginInstruction_9 rfl rfl ?_
    replace hf := kR_i hf
    obtain ⟨a6, ea6, hf⟩ := hf
    refine J_gets (i := 32) (v := va_rf (some a6)) Z.1 dX6_beginInstruction_10 rfl q_749 (yEv Z hE ea6) rfl ?_
    refine J_acmp_ne Z.1 25 dX6_beginInstruction_13 (by decide) (fun c7 => ?_) (fun c7 => ?_)
    · rw [if_neg c7] at hf
      refine J_lv [1, 0] rfl ?_
      exact pX6_beginInstruction_b25_ok Z hK hE  _ _ _ M hf
    · rw [if_pos c7] at hf
      refine J_aload_n Z.1 1 dX6_beginInstruction_16 rfl rfl ?_
      refine J_get (v := va_rf (hR h2 this 11)) Z.1 dX6_beginInstruction_17 fl_X6_54 t1 rfl ?_
      refine J_tr (fun r8 er8 => ?_)
      replace hf := lt_i hf r8 er8
      refine J_ifnonnull Z.1 25 dX6_beginInstruction_20 (by decide) (fun c9 => ?_) (fun c9 => ?_)
      · rw [if_neg c9] at hf
        refine J_lv [1, 0] rfl ?_
        exact pX6_beginInstruction_b25_ok Z hK hE  _ _ _ M hf
      · rw [if_pos c9] at hf
        refine J_iconst Z.1 (v := 2) (by decide) dX6_beginInstruction_23 ?_
        cases hf
        exact J_iret Z.1 Z.2.2.2.2.1 dX6_beginInstruction_24
theorem dX6_followName_0 : decode cX6_followName 0 = .ok (.iload_n 1, 1) := by decide +kernel
theorem dX6_followName_1 : decode cX6_followName 1 = .ok (.bipush 115, 2) := by decide +kernel
theorem dX6_followName_3 : decode cX6_followName 3 = .ok (.if_icmp .ne 13, 3) := by decide +kernel
theorem dX6_followName_6 : decode cX6_followName 6 = .ok (.aload_n 0, 1) := by decide +kernel
theorem dX6_followName_7 : decode cX6_followName 7 = .ok (.bipush 115, 2) := by decide +kernel
theorem dX6_followName_9 : decode cX6_followName 9 = .ok (.iconst 4, 1) := by decide +kernel
theorem dX6_followName_10 : decode cX6_followName 10 = .ok (.invokevirtual 137, 3) := by decide +kernel
theorem dX6_followName_13 : decode cX6_followName 13 = .ok (.goto 11, 3) := by decide +kernel
theorem dX6_followName_16 : decode cX6_followName 16 = .ok (.aload_n 0, 1) := by decide +kernel
theorem dX6_followName_17 : decode cX6_followName 17 = .ok (.bipush 118, 2) := by decide +kernel
theorem dX6_followName_19 : decode cX6_followName 19 = .ok (.bipush 6, 2) := by decide +kernel
theorem dX6_followName_21 : decode cX6_followName 21 = .ok (.invokevirtual 137, 3) := by decide +kernel
theorem dX6_followName_24 : decode cX6_followName 24 = .ok (.istore_n 2, 1) := by decide +kernel
theorem dX6_followName_25 : decode cX6_followName 25 = .ok (.iload_n 2, 1) := by decide +kernel
theorem dX6_followName_26 : decode cX6_followName 26 = .ok (.iconst (-1), 1) := by decide +kernel
theorem dX6_followName_27 : decode cX6_followName 27 = .ok (.if_icmp .eq 10, 3) := by decide +kernel
theorem dX6_followName_30 : decode cX6_followName 30 = .ok (.aload_n 0, 1) := by decide +kernel
theorem dX6_followName_31 : decode cX6_followName 31 = .ok (.getfield 47, 3) := by decide +kernel
theorem dX6_followName_34 : decode cX6_followName 34 = .ok (.ifnonnull 5, 3) := by decide +kernel
theorem dX6_followName_37 : decode cX6_followName 37 = .ok (.iconst 2, 1) := by decide +kernel
theorem dX6_followName_38 : decode cX6_followName 38 = .ok (.ireturn, 1) := by decide +kernel
theorem dX6_followName_39 : decode cX6_followName 39 = .ok (.iload_n 1, 1) := by decide +kernel
theorem dX6_followName_40 : decode cX6_followName 40 = .ok (.bipush 100, 2) := by decide +kernel
theorem dX6_followName_42 : decode cX6_followName 42 = .ok (.if_icmp .ne 14, 3) := by decide +kernel
theorem dX6_followName_45 : decode cX6_followName 45 = .ok (.aload_n 0, 1) := by decide +kernel
theorem dX6_followName_46 : decode cX6_followName 46 = .ok (.getfield 47, 3) := by decide +kernel
theorem dX6_followName_49 : decode cX6_followName 49 = .ok (.iload_n 2, 1) := by decide +kernel
theorem dX6_followName_50 : decode cX6_followName 50 = .ok (.putfield 141, 3) := by decide +kernel
theorem dX6_followName_53 : decode cX6_followName 53 = .ok (.goto 45, 3) := by decide +kernel
theorem dX6_followName_56 : decode cX6_followName 56 = .ok (.iload_n 1, 1) := by decide +kernel
theorem dX6_followName_57 : decode cX6_followName 57 = .ok (.bipush 97, 2) := by decide +kernel
theorem dX6_followName_59 : decode cX6_followName 59 = .ok (.if_icmp .ne 14, 3) := by decide +kernel
theorem dX6_followName_62 : decode cX6_followName 62 = .ok (.aload_n 0, 1) := by decide +kernel
theorem dX6_followName_63 : decode cX6_followName 63 = .ok (.getfield 47, 3) := by decide +kernel
theorem dX6_followName_66 : decode cX6_followName 66 = .ok (.iload_n 2, 1) := by decide +kernel
theorem dX6_followName_67 : decode cX6_followName 67 = .ok (.putfield 144, 3) := by decide +kernel
theorem dX6_followName_70 : decode cX6_followName 70 = .ok (.goto 28, 3) := by decide +kernel
theorem dX6_followName_73 : decode cX6_followName 73 = .ok (.iload_n 1, 1) := by decide +kernel
theorem dX6_followName_74 : decode cX6_followName 74 = .ok (.bipush 98, 2) := by decide +kernel
theorem dX6_followName_76 : decode cX6_followName 76 = .ok (.if_icmp .ne 14, 3) := by decide +kernel
theorem dX6_followName_79 : decode cX6_followName 79 = .ok (.aload_n 0, 1) := by decide +kernel
theorem dX6_followName_80 : decode cX6_followName 80 = .ok (.getfield 47, 3) := by decide +kernel
theorem dX6_followName_83 : decode cX6_followName 83 = .ok (.iload_n 2, 1) := by decide +kernel
theorem dX6_followName_84 : decode cX6_followName 84 = .ok (.putfield 147, 3) := by decide +kernel
theorem dX6_followName_87 : decode cX6_followName 87 = .ok (.goto 11, 3) := by decide +kernel
theorem dX6_followName_90 : decode cX6_followName 90 = .ok (.aload_n 0, 1) := by decide +kernel
theorem dX6_followName_91 : decode cX6_followName 91 = .ok (.getfield 47, 3) := by decide +kernel
theorem dX6_followName_94 : decode cX6_followName 94 = .ok (.iload_n 2, 1) := by decide +kernel
theorem dX6_followName_95 : decode cX6_followName 95 = .ok (.putfield 150, 3) := by decide +kernel
theorem dX6_followName_98 : decode cX6_followName 98 = .ok (.iconst 0, 1) := by decide +kernel
theorem dX6_followName_99 : decode cX6_followName 99 = .ok (.ireturn, 1) := by decide +kernel
def pX6_followName_b24 (g : MT) (this : Nat) (p1 : Int32) (s0 : Int32) (h : CT) : Option ((Int32) × CT) := if s0 = (-1) then some (2, h) else lt (hR h this 8) fun r2 => (if r2 = none then some (2, h) else if p1 = 100 then lt (hR h this 8) fun r16 => (nn r16 fun a16 => (tg g a16 2 (lt (sI h a16 1 s0) fun h18 => (some (0, h18))))) else if p1 = 97 then lt (hR h this 8) fun r13 => (nn r13 fun a13 => (tg g a13 2 (lt (sI h a13 2 s0) fun h15 => (some (0, h15))))) else if p1 = 98 then lt (hR h this 8) fun r10 => (nn r10 fun a10 => (tg g a10 2 (lt (sI h a10 3 s0) fun h12 => (some (0, h12))))) else lt (hR h this 8) fun r7 => (nn r7 fun a7 => (tg g a7 2 (lt (sI h a7 4 s0) fun h9 => (some (0, h9))))))
set_option maxRecDepth 10000 in
set_option maxHeartbeats 4000000 in
theorem pX6_followName_b24_ok {X : Cx} {G : Gx} {dk : Nat} {g : MT} {r0 : Int32} {h0 : CT} {this : Nat} {p1 : Int32} (Z : Zx X G cX6_followName RX6 3 dk (some .int) (some (.int r0)) g h0) (hK : 1 ≤ dk) (t0 : gT g this = 5) (s0 : Int32) (h : CT) (hf : pX6_followName_b24 g this p1 s0 h = some (r0, h0)) : J X g h 24 [(0, va_rf (some this)), (1, .int p1)] [.int s0] := by
  unfold pX6_followName_b24 at hf
  refine J_istore_n Z.1 (lv2 := [(2, .int s0), (0, va_rf (some this)), (1, .int p1)]) dX6_followName_24 rfl (zL Z (by decide)) rfl ?_
  refine J_iload_n Z.1 0 dX6_followName_25 rfl rfl ?_
  refine J_iconst Z.1 (v := (-1)) (by decide) dX6_followName_26 ?_
  refine J_icmp_eq Z.1 37 dX6_followName_27 (by decide) (fun c1 => ?_) (fun c1 => ?_)
  · rw [if_pos c1] at hf
    refine J_iconst Z.1 (v := 2) (by decide) dX6_followName_37 ?_
    cases hf
    exact J_iret Z.1 Z.2.2.2.2.2 dX6_followName_38
  · rw [if_neg c1] at hf
    refine J_aload_n Z.1 1 dX6_followName_30 rfl rfl ?_
    refine J_get (v := va_rf (hR h this 8)) Z.1 dX6_followName_31 fl_X6_47 t0 rfl ?_
    refine J_tr (fun r2 er2 => ?_)
    replace hf := lt_i hf r2 er2
    refine J_ifnonnull Z.1 39 dX6_followName_34 (by decide) (fun c3 => ?_) (fun c3 => ?_)
    · rw [if_neg c3] at hf
      refine J_iload_n Z.1 2 dX6_followName_39 rfl rfl ?_
      refine J_bipush Z.1 (v := 100) (by decide) dX6_followName_40 ?_
      refine J_icmp_ne Z.1 56 dX6_followName_42 (by decide) (fun c4 => ?_) (fun c4 => ?_)
      · rw [if_neg c4] at hf
        refine J_iload_n Z.1 2 dX6_followName_56 rfl rfl ?_
        refine J_bipush Z.1 (v := 97) (by decide) dX6_followName_57 ?_
        refine J_icmp_ne Z.1 73 dX6_followName_59 (by decide) (fun c5 => ?_) (fun c5 => ?_)
        · rw [if_neg c5] at hf
          refine J_iload_n Z.1 2 dX6_followName_73 rfl rfl ?_
          refine J_bipush Z.1 (v := 98) (by decide) dX6_followName_74 ?_
          refine J_icmp_ne Z.1 90 dX6_followName_76 (by decide) (fun c6 => ?_) (fun c6 => ?_)
          · rw [if_neg c6] at hf
            refine J_aload_n Z.1 1 dX6_followName_90 rfl rfl ?_
            refine J_get (v := va_rf (hR h this 8)) Z.1 dX6_followName_91 fl_X6_47 t0 rfl ?_
            refine J_tr (fun r7 er7 => ?_)
            replace hf := lt_i hf r7 er7
            refine J_iload_n Z.1 0 dX6_followName_94 rfl rfl ?_
            replace hf := nn_i hf
            obtain ⟨a7, rfl, hf⟩ := hf
            replace hf := tg_i hf
            obtain ⟨t8, hf⟩ := hf
            refine J_putI Z.1 dX6_followName_95 fl_X6_150 (fun q => by cases q) t8 rfl rfl (congrArg Value.int (hI_s _ _ _ _)) ?_
            refine J_th (fun h9 eh9 => ?_)
            replace hf := lt_i hf h9 eh9
            refine J_iconst Z.1 (v := 0) (by decide) dX6_followName_98 ?_
            cases hf
            exact J_iret Z.1 Z.2.2.2.2.2 dX6_followName_99
          · rw [if_pos c6] at hf
            refine J_aload_n Z.1 1 dX6_followName_79 rfl rfl ?_
            refine J_get (v := va_rf (hR h this 8)) Z.1 dX6_followName_80 fl_X6_47 t0 rfl ?_
            refine J_tr (fun r10 er10 => ?_)
            replace hf := lt_i hf r10 er10
            refine J_iload_n Z.1 0 dX6_followName_83 rfl rfl ?_
            replace hf := nn_i hf
            obtain ⟨a10, rfl, hf⟩ := hf
            replace hf := tg_i hf
            obtain ⟨t11, hf⟩ := hf
            refine J_putI Z.1 dX6_followName_84 fl_X6_147 (fun q => by cases q) t11 rfl rfl (congrArg Value.int (hI_s _ _ _ _)) ?_
            refine J_th (fun h12 eh12 => ?_)
            replace hf := lt_i hf h12 eh12
            refine J_goto Z.1 98 dX6_followName_87 (by decide) ?_
            refine J_iconst Z.1 (v := 0) (by decide) dX6_followName_98 ?_
            cases hf
            exact J_iret Z.1 Z.2.2.2.2.2 dX6_followName_99
        · rw [if_pos c5] at hf
          refine J_aload_n Z.1 1 dX6_followName_62 rfl rfl ?_
          refine J_get (v := va_rf (hR h this 8)) Z.1 dX6_followName_63 fl_X6_47 t0 rfl ?_
          refine J_tr (fun r13 er13 => ?_)
          replace hf := lt_i hf r13 er13
          refine J_iload_n Z.1 0 dX6_followName_66 rfl rfl ?_
          replace hf := nn_i hf
          obtain ⟨a13, rfl, hf⟩ := hf
          replace hf := tg_i hf
          obtain ⟨t14, hf⟩ := hf
          refine J_putI Z.1 dX6_followName_67 fl_X6_144 (fun q => by cases q) t14 rfl rfl (congrArg Value.int (hI_s _ _ _ _)) ?_
          refine J_th (fun h15 eh15 => ?_)
          replace hf := lt_i hf h15 eh15
          refine J_goto Z.1 98 dX6_followName_70 (by decide) ?_
          refine J_iconst Z.1 (v := 0) (by decide) dX6_followName_98 ?_
          cases hf
          exact J_iret Z.1 Z.2.2.2.2.2 dX6_followName_99
      · rw [if_pos c4] at hf
        refine J_aload_n Z.1 1 dX6_followName_45 rfl rfl ?_
        refine J_get (v := va_rf (hR h this 8)) Z.1 dX6_followName_46 fl_X6_47 t0 rfl ?_
        refine J_tr (fun r16 er16 => ?_)
        replace hf := lt_i hf r16 er16
        refine J_iload_n Z.1 0 dX6_followName_49 rfl rfl ?_
        replace hf := nn_i hf
        obtain ⟨a16, rfl, hf⟩ := hf
        replace hf := tg_i hf
        obtain ⟨t17, hf⟩ := hf
        refine J_putI Z.1 dX6_followName_50 fl_X6_141 (fun q => by cases q) t17 rfl rfl (congrArg Value.int (hI_s _ _ _ _)) ?_
        refine J_th (fun h18 eh18 => ?_)
        replace hf := lt_i hf h18 eh18
        refine J_goto Z.1 98 dX6_followName_53 (by decide) ?_
        refine J_iconst Z.1 (v := 0) (by decide) dX6_followName_98 ?_
        cases hf
        exact J_iret Z.1 Z.2.2.2.2.2 dX6_followName_99
    · rw [if_pos c3] at hf
      refine J_iconst Z.1 (v := 2) (by decide) dX6_followName_37 ?_
      cases hf
      exact J_iret Z.1 Z.2.2.2.2.2 dX6_followName_38
def pX6_followName (g : MT) (h : CT) (this : Nat) (p1 : Int32) : Option ((Int32) × CT) := tg g this 5 (if p1 = 115 then bd (pX6_letterBehind g h this 115 4) fun x4 => (pX6_followName_b24 g this p1  x4 h) else bd (pX6_letterBehind g h this 118 6) fun x2 => (pX6_followName_b24 g this p1  x2 h))
set_option maxRecDepth 10000 in
set_option maxHeartbeats 4000000 in
theorem pX6_followName_ok (G : Gx) (dk : Nat) (hK : 1 ≤ dk) {g : MT} {h h0 : CT} {this : Nat} {p1 : Int32} {r0 : Int32} (hf : pX6_followName g h this p1 = some (r0, h0)) : Ctr G dk yX6_followName cX6_followName 3 (some .int) [va_rf (some this), .int p1] g h (some (.int r0)) g h0 := by
  refine Ctr.ofZ (lv := [(0, va_rf (some this)), (1, .int p1)]) (by decide +kernel) (by simp [cat_i, cat_l, cat_d, cat_rf]) rfl fun X Z => ?_
  unfold pX6_followName at hf
  replace hf := tg_i hf
  obtain ⟨t0, hf⟩ := hf
  refine J_iload_n Z.1 1 dX6_followName_0 rfl rfl ?_
  refine J_bipush Z.1 (v := 115) (by decide) dX6_followName_1 ?_
  refine J_icmp_ne Z.1 16 dX6_followName_3 (by decide) (fun c1 => ?_) (fun c1 => ?_)
  · rw [if_neg c1] at hf
    refine J_aload_n Z.1 0 dX6_followName_16 rfl rfl ?_
    refine J_bipush Z.1 (v := 118) (by decide) dX6_followName_17 ?_
    refine J_bipush Z.1 (v := 6) (by decide) dX6_followName_19 ?_
    replace hf := bd_i hf
    obtain ⟨x2, q3, hf⟩ := hf
    refine J_callV (ci := 4) (as := [.int 118, .int 6]) (rest := []) (sy := [.int x2]) Z.1 dX6_followName_21 cw_X6_137 (pX6_letterBehind_ok G (dk - 1) (by omega) q3) rfl rfl t0 (zG Z) rfl (by decide) (zF Z (by omega)) (zO Z (by omega) (by decide)) (zM _) Z.2.1 Z.2.1 rfl rfl ?_
    exact pX6_followName_b24_ok Z hK t0  _ _ hf
  · rw [if_pos c1] at hf
    refine J_aload_n Z.1 0 dX6_followName_6 rfl rfl ?_
    refine J_bipush Z.1 (v := 115) (by decide) dX6_followName_7 ?_
    refine J_iconst Z.1 (v := 4) (by decide) dX6_followName_9 ?_
    replace hf := bd_i hf
    obtain ⟨x4, q5, hf⟩ := hf
    refine J_callV (ci := 4) (as := [.int 115, .int 4]) (rest := []) (sy := [.int x4]) Z.1 dX6_followName_10 cw_X6_137 (pX6_letterBehind_ok G (dk - 1) (by omega) q5) rfl rfl t0 (zG Z) rfl (by decide) (zF Z (by omega)) (zO Z (by omega) (by decide)) (zM _) Z.2.1 Z.2.1 rfl rfl ?_
    refine J_goto Z.1 24 dX6_followName_13 (by decide) ?_
    exact pX6_followName_b24_ok Z hK t0  _ _ hf
theorem dX6_followNumber_0 : decode cX6_followNumber 0 = .ok (.aload_n 0, 1) := by decide +kernel
theorem dX6_followNumber_1 : decode cX6_followNumber 1 = .ok (.getfield 76, 3) := by decide +kernel
theorem dX6_followNumber_4 : decode cX6_followNumber 4 = .ok (.iconst 2, 1) := by decide +kernel
theorem dX6_followNumber_5 : decode cX6_followNumber 5 = .ok (.if_icmp .ne 10, 3) := by decide +kernel
theorem dX6_followNumber_8 : decode cX6_followNumber 8 = .ok (.aload_n 0, 1) := by decide +kernel
theorem dX6_followNumber_9 : decode cX6_followNumber 9 = .ok (.getfield 47, 3) := by decide +kernel
theorem dX6_followNumber_12 : decode cX6_followNumber 12 = .ok (.ifnonnull 5, 3) := by decide +kernel
theorem dX6_followNumber_15 : decode cX6_followNumber 15 = .ok (.iconst 2, 1) := by decide +kernel
theorem dX6_followNumber_16 : decode cX6_followNumber 16 = .ok (.ireturn, 1) := by decide +kernel
theorem dX6_followNumber_17 : decode cX6_followNumber 17 = .ok (.iconst 0, 1) := by decide +kernel
theorem dX6_followNumber_18 : decode cX6_followNumber 18 = .ok (.istore_n 2, 1) := by decide +kernel
theorem dX6_followNumber_19 : decode cX6_followNumber 19 = .ok (.aload_n 0, 1) := by decide +kernel
theorem dX6_followNumber_20 : decode cX6_followNumber 20 = .ok (.getfield 65, 3) := by decide +kernel
theorem dX6_followNumber_23 : decode cX6_followNumber 23 = .ok (.istore_n 3, 1) := by decide +kernel
theorem dX6_followNumber_24 : decode cX6_followNumber 24 = .ok (.iload_n 3, 1) := by decide +kernel
theorem dX6_followNumber_25 : decode cX6_followNumber 25 = .ok (.aload_n 0, 1) := by decide +kernel
theorem dX6_followNumber_26 : decode cX6_followNumber 26 = .ok (.getfield 37, 3) := by decide +kernel
theorem dX6_followNumber_29 : decode cX6_followNumber 29 = .ok (.if_icmp .ge 24, 3) := by decide +kernel
theorem dX6_followNumber_32 : decode cX6_followNumber 32 = .ok (.iload_n 2, 1) := by decide +kernel
theorem dX6_followNumber_33 : decode cX6_followNumber 33 = .ok (.bipush 10, 2) := by decide +kernel
theorem dX6_followNumber_35 : decode cX6_followNumber 35 = .ok (.imul, 1) := by decide +kernel
theorem dX6_followNumber_36 : decode cX6_followNumber 36 = .ok (.aload_n 0, 1) := by decide +kernel
theorem dX6_followNumber_37 : decode cX6_followNumber 37 = .ok (.getfield 18, 3) := by decide +kernel
theorem dX6_followNumber_40 : decode cX6_followNumber 40 = .ok (.iload_n 3, 1) := by decide +kernel
theorem dX6_followNumber_41 : decode cX6_followNumber 41 = .ok (.baload, 1) := by decide +kernel
theorem dX6_followNumber_42 : decode cX6_followNumber 42 = .ok (.bipush 48, 2) := by decide +kernel
theorem dX6_followNumber_44 : decode cX6_followNumber 44 = .ok (.isub, 1) := by decide +kernel
theorem dX6_followNumber_45 : decode cX6_followNumber 45 = .ok (.iadd, 1) := by decide +kernel
theorem dX6_followNumber_46 : decode cX6_followNumber 46 = .ok (.istore_n 2, 1) := by decide +kernel
theorem dX6_followNumber_47 : decode cX6_followNumber 47 = .ok (.iinc 3 1, 3) := by decide +kernel
theorem dX6_followNumber_50 : decode cX6_followNumber 50 = .ok (.goto (-26), 3) := by decide +kernel
theorem dX6_followNumber_53 : decode cX6_followNumber 53 = .ok (.iload_n 2, 1) := by decide +kernel
theorem dX6_followNumber_54 : decode cX6_followNumber 54 = .ok (.iload_n 1, 1) := by decide +kernel
theorem dX6_followNumber_55 : decode cX6_followNumber 55 = .ok (.invokestatic 153, 3) := by decide +kernel
theorem dX6_followNumber_58 : decode cX6_followNumber 58 = .ok (.if_icmp .le 5, 3) := by decide +kernel
theorem dX6_followNumber_61 : decode cX6_followNumber 61 = .ok (.iconst 4, 1) := by decide +kernel
theorem dX6_followNumber_62 : decode cX6_followNumber 62 = .ok (.ireturn, 1) := by decide +kernel
theorem dX6_followNumber_63 : decode cX6_followNumber 63 = .ok (.iload_n 1, 1) := by decide +kernel
theorem dX6_followNumber_64 : decode cX6_followNumber 64 = .ok (.bipush 112, 2) := by decide +kernel
theorem dX6_followNumber_66 : decode cX6_followNumber 66 = .ok (.if_icmp .ne 14, 3) := by decide +kernel
theorem dX6_followNumber_69 : decode cX6_followNumber 69 = .ok (.aload_n 0, 1) := by decide +kernel
theorem dX6_followNumber_70 : decode cX6_followNumber 70 = .ok (.getfield 47, 3) := by decide +kernel
theorem dX6_followNumber_73 : decode cX6_followNumber 73 = .ok (.iload_n 2, 1) := by decide +kernel
theorem dX6_followNumber_74 : decode cX6_followNumber 74 = .ok (.putfield 156, 3) := by decide +kernel
theorem dX6_followNumber_77 : decode cX6_followNumber 77 = .ok (.goto 28, 3) := by decide +kernel
theorem dX6_followNumber_80 : decode cX6_followNumber 80 = .ok (.iload_n 1, 1) := by decide +kernel
theorem dX6_followNumber_81 : decode cX6_followNumber 81 = .ok (.bipush 121, 2) := by decide +kernel
theorem dX6_followNumber_83 : decode cX6_followNumber 83 = .ok (.if_icmp .ne 14, 3) := by decide +kernel
theorem dX6_followNumber_86 : decode cX6_followNumber 86 = .ok (.aload_n 0, 1) := by decide +kernel
theorem dX6_followNumber_87 : decode cX6_followNumber 87 = .ok (.getfield 47, 3) := by decide +kernel
theorem dX6_followNumber_90 : decode cX6_followNumber 90 = .ok (.iload_n 2, 1) := by decide +kernel
theorem dX6_followNumber_91 : decode cX6_followNumber 91 = .ok (.putfield 158, 3) := by decide +kernel
theorem dX6_followNumber_94 : decode cX6_followNumber 94 = .ok (.goto 11, 3) := by decide +kernel
theorem dX6_followNumber_97 : decode cX6_followNumber 97 = .ok (.aload_n 0, 1) := by decide +kernel
theorem dX6_followNumber_98 : decode cX6_followNumber 98 = .ok (.getfield 47, 3) := by decide +kernel
theorem dX6_followNumber_101 : decode cX6_followNumber 101 = .ok (.iload_n 2, 1) := by decide +kernel
theorem dX6_followNumber_102 : decode cX6_followNumber 102 = .ok (.putfield 160, 3) := by decide +kernel
theorem dX6_followNumber_105 : decode cX6_followNumber 105 = .ok (.iconst 0, 1) := by decide +kernel
theorem dX6_followNumber_106 : decode cX6_followNumber 106 = .ok (.ireturn, 1) := by decide +kernel
def pX6_followNumber_b24 (g : MT) (this : Nat) (p1 : Int32) (k24 : Int32 → Int32 → CT → Option ((Int32) × CT)) (l2 : Int32) (l3 : Int32) (h : CT) : Option ((Int32) × CT) := if (hI h this 5) ≤ l3 then if l2 ≤ (pX6_mostFor p1) then if p1 = 112 then lt (hR h this 8) fun r11 => (nn r11 fun a11 => (tg g a11 2 (lt (sI h a11 5 l2) fun h13 => (some (0, h13))))) else if p1 = 121 then lt (hR h this 8) fun r8 => (nn r8 fun a8 => (tg g a8 2 (lt (sI h a8 6 l2) fun h10 => (some (0, h10))))) else lt (hR h this 8) fun r5 => (nn r5 fun a5 => (tg g a5 2 (lt (sI h a5 7 l2) fun h7 => (some (0, h7))))) else some (4, h) else lt (hR h this 2) fun r14 => (nn r14 fun a14 => (tg g a14 23 (ix (gL g a14) l3 (lt ((l2 * 10) + ((hI h a14 (Int32.toNatClampNeg l3)) - 48)) fun x17 => (lt (l3 + 1) fun x18 => (k24 x17 x18 h))))))
set_option maxRecDepth 10000 in
set_option maxHeartbeats 4000000 in
theorem pX6_followNumber_b24_ok {X : Cx} {G : Gx} {dk : Nat} {g : MT} {r0 : Int32} {h0 : CT} {this : Nat} {p1 : Int32} {k24 : Int32 → Int32 → CT → Option ((Int32) × CT)} (Z : Zx X G cX6_followNumber RX6 4 dk (some .int) (some (.int r0)) g h0) (hK : 1 ≤ dk) (t0 : gT g this = 5) (hk24 : ∀ (l2 : Int32) (l3 : Int32) (h : CT), k24 l2 l3 h = some (r0, h0) → J X g h 24 [(0, va_rf (some this)), (1, .int p1), (2, .int l2), (3, .int l3)] []) (l2 : Int32) (l3 : Int32) (h : CT) (hf : pX6_followNumber_b24 g this p1 k24 l2 l3 h = some (r0, h0)) : J X g h 24 [(0, va_rf (some this)), (1, .int p1), (2, .int l2), (3, .int l3)] [] := by
  unfold pX6_followNumber_b24 at hf
  refine J_iload_n Z.1 3 dX6_followNumber_24 rfl rfl ?_
  refine J_aload_n Z.1 0 dX6_followNumber_25 rfl rfl ?_
  refine J_get (v := .int (hI h this 5)) Z.1 dX6_followNumber_26 fl_X6_37 t0 rfl ?_
  refine J_icmp_ge Z.1 53 dX6_followNumber_29 (by decide) (fun c1 => ?_) (fun c1 => ?_)
  · rw [if_pos c1] at hf
    refine J_iload_n Z.1 2 dX6_followNumber_53 rfl rfl ?_
    refine J_iload_n Z.1 1 dX6_followNumber_54 rfl rfl ?_
    refine J_callS (as := [.int p1]) (rest := [.int l2]) (sy := [.int (pX6_mostFor p1), .int l2]) Z.1 dX6_followNumber_55 cw_X6_153 (pX6_mostFor_ok G (dk - 1) (by omega) g h p1) (zG Z) rfl (by simp [cat_i, cat_l, cat_d, cat_rf]) (zF Z (by omega)) (zO Z (by omega) (by decide)) (zM _) Z.2.1 Z.2.1 rfl rfl ?_
    refine J_icmp_le Z.1 63 dX6_followNumber_58 (by decide) (fun c2 => ?_) (fun c2 => ?_)
    · rw [if_pos c2] at hf
      refine J_iload_n Z.1 1 dX6_followNumber_63 rfl rfl ?_
      refine J_bipush Z.1 (v := 112) (by decide) dX6_followNumber_64 ?_
      refine J_icmp_ne Z.1 80 dX6_followNumber_66 (by decide) (fun c3 => ?_) (fun c3 => ?_)
      · rw [if_neg c3] at hf
        refine J_iload_n Z.1 1 dX6_followNumber_80 rfl rfl ?_
        refine J_bipush Z.1 (v := 121) (by decide) dX6_followNumber_81 ?_
        refine J_icmp_ne Z.1 97 dX6_followNumber_83 (by decide) (fun c4 => ?_) (fun c4 => ?_)
        · rw [if_neg c4] at hf
          refine J_aload_n Z.1 0 dX6_followNumber_97 rfl rfl ?_
          refine J_get (v := va_rf (hR h this 8)) Z.1 dX6_followNumber_98 fl_X6_47 t0 rfl ?_
          refine J_tr (fun r5 er5 => ?_)
          replace hf := lt_i hf r5 er5
          refine J_iload_n Z.1 2 dX6_followNumber_101 rfl rfl ?_
          replace hf := nn_i hf
          obtain ⟨a5, rfl, hf⟩ := hf
          replace hf := tg_i hf
          obtain ⟨t6, hf⟩ := hf
          refine J_putI Z.1 dX6_followNumber_102 fl_X6_160 (fun q => by cases q) t6 rfl rfl (congrArg Value.int (hI_s _ _ _ _)) ?_
          refine J_th (fun h7 eh7 => ?_)
          replace hf := lt_i hf h7 eh7
          refine J_iconst Z.1 (v := 0) (by decide) dX6_followNumber_105 ?_
          cases hf
          exact J_iret Z.1 Z.2.2.2.2.2 dX6_followNumber_106
        · rw [if_pos c4] at hf
          refine J_aload_n Z.1 0 dX6_followNumber_86 rfl rfl ?_
          refine J_get (v := va_rf (hR h this 8)) Z.1 dX6_followNumber_87 fl_X6_47 t0 rfl ?_
          refine J_tr (fun r8 er8 => ?_)
          replace hf := lt_i hf r8 er8
          refine J_iload_n Z.1 2 dX6_followNumber_90 rfl rfl ?_
          replace hf := nn_i hf
          obtain ⟨a8, rfl, hf⟩ := hf
          replace hf := tg_i hf
          obtain ⟨t9, hf⟩ := hf
          refine J_putI Z.1 dX6_followNumber_91 fl_X6_158 (fun q => by cases q) t9 rfl rfl (congrArg Value.int (hI_s _ _ _ _)) ?_
          refine J_th (fun h10 eh10 => ?_)
          replace hf := lt_i hf h10 eh10
          refine J_goto Z.1 105 dX6_followNumber_94 (by decide) ?_
          refine J_iconst Z.1 (v := 0) (by decide) dX6_followNumber_105 ?_
          cases hf
          exact J_iret Z.1 Z.2.2.2.2.2 dX6_followNumber_106
      · rw [if_pos c3] at hf
        refine J_aload_n Z.1 0 dX6_followNumber_69 rfl rfl ?_
        refine J_get (v := va_rf (hR h this 8)) Z.1 dX6_followNumber_70 fl_X6_47 t0 rfl ?_
        refine J_tr (fun r11 er11 => ?_)
        replace hf := lt_i hf r11 er11
        refine J_iload_n Z.1 2 dX6_followNumber_73 rfl rfl ?_
        replace hf := nn_i hf
        obtain ⟨a11, rfl, hf⟩ := hf
        replace hf := tg_i hf
        obtain ⟨t12, hf⟩ := hf
        refine J_putI Z.1 dX6_followNumber_74 fl_X6_156 (fun q => by cases q) t12 rfl rfl (congrArg Value.int (hI_s _ _ _ _)) ?_
        refine J_th (fun h13 eh13 => ?_)
        replace hf := lt_i hf h13 eh13
        refine J_goto Z.1 105 dX6_followNumber_77 (by decide) ?_
        refine J_iconst Z.1 (v := 0) (by decide) dX6_followNumber_105 ?_
        cases hf
        exact J_iret Z.1 Z.2.2.2.2.2 dX6_followNumber_106
    · rw [if_neg c2] at hf
      refine J_iconst Z.1 (v := 4) (by decide) dX6_followNumber_61 ?_
      cases hf
      exact J_iret Z.1 Z.2.2.2.2.2 dX6_followNumber_62
  · rw [if_neg c1] at hf
    refine J_iload_n Z.1 2 dX6_followNumber_32 rfl rfl ?_
    refine J_bipush Z.1 (v := 10) (by decide) dX6_followNumber_33 ?_
    refine J_imul Z.1 dX6_followNumber_35 ?_
    refine J_aload_n Z.1 0 dX6_followNumber_36 rfl rfl ?_
    refine J_get (v := va_rf (hR h this 2)) Z.1 dX6_followNumber_37 fl_X6_18 t0 rfl ?_
    refine J_tr (fun r14 er14 => ?_)
    replace hf := lt_i hf r14 er14
    refine J_iload_n Z.1 3 dX6_followNumber_40 rfl rfl ?_
    replace hf := nn_i hf
    obtain ⟨a14, rfl, hf⟩ := hf
    replace hf := tg_i hf
    obtain ⟨t15, hf⟩ := hf
    replace hf := ix_i hf
    obtain ⟨i16, hf⟩ := hf
    refine J_baload Z.1 dX6_followNumber_41 t15 i16 ?_
    refine J_bipush Z.1 (v := 48) (by decide) dX6_followNumber_42 ?_
    refine J_isub Z.1 dX6_followNumber_44 ?_
    refine J_iadd Z.1 dX6_followNumber_45 ?_
    refine J_ti (fun x17 ex17 => ?_)
    replace hf := lt_i hf x17 ex17
    refine J_istore_n Z.1 (lv2 := [(2, .int x17), (0, va_rf (some this)), (1, .int p1), (3, .int l3)]) dX6_followNumber_46 rfl (zL Z (by decide)) rfl ?_
    refine J_iinc Z.1 (v := 1) (lv2 := [(3, .int (l3 + 1)), (2, .int x17), (0, va_rf (some this)), (1, .int p1)]) 3 dX6_followNumber_47 rfl (by decide) (zL Z (by decide)) rfl ?_
    obtain ⟨x18, ex18⟩ : ∃ z, z = (l3 + 1) := ⟨_, rfl⟩
    replace hf := lt_i hf x18 ex18
    rw [← ex18]
    refine J_goto Z.1 24 dX6_followNumber_50 (by decide) ?_
    refine J_lv [2, 3, 1, 0] rfl ?_
    exact hk24 _ _ _ hf
def pX6_followNumber_l24 (g : MT) (this : Nat) (p1 : Int32) : Nat → Int32 → Int32 → CT → Option ((Int32) × CT)
  | 0, _, _, _ => none
  | n + 1, l2, l3, h => pX6_followNumber_b24 g this p1 (pX6_followNumber_l24 g this p1 n) l2 l3 h
theorem pX6_followNumber_l24_ok {X : Cx} {G : Gx} {dk : Nat} {g : MT} {r0 : Int32} {h0 : CT} {this : Nat} {p1 : Int32} (Z : Zx X G cX6_followNumber RX6 4 dk (some .int) (some (.int r0)) g h0) (hK : 1 ≤ dk) (t0 : gT g this = 5) : ∀ (n : Nat) (l2 : Int32) (l3 : Int32) (h : CT), pX6_followNumber_l24 g this p1 n l2 l3 h = some (r0, h0) → J X g h 24 [(0, va_rf (some this)), (1, .int p1), (2, .int l2), (3, .int l3)] [] := by
  intro n
  induction n with
  | zero => intro l2 l3 h hf; cases hf
  | succ n ih => intro l2 l3 h hf; exact pX6_followNumber_b24_ok Z hK t0 ih l2 l3 h hf
def pX6_followNumber (g : MT) (h : CT) (this : Nat) (p1 : Int32) : Option ((Int32) × CT) := tg g this 5 (if (hI h this 6) = 2 then lt (hR h this 8) fun r2 => (if r2 = none then some (2, h) else lt (hI h this 4) fun x4 => (pX6_followNumber_l24 g this p1  FUEL 0 x4 h)) else some (2, h))
set_option maxRecDepth 10000 in
set_option maxHeartbeats 4000000 in
theorem pX6_followNumber_ok (G : Gx) (dk : Nat) (hK : 1 ≤ dk) {g : MT} {h h0 : CT} {this : Nat} {p1 : Int32} {r0 : Int32} (hf : pX6_followNumber g h this p1 = some (r0, h0)) : Ctr G dk yX6_followNumber cX6_followNumber 4 (some .int) [va_rf (some this), .int p1] g h (some (.int r0)) g h0 := by
  refine Ctr.ofZ (lv := [(0, va_rf (some this)), (1, .int p1)]) (by decide +kernel) (by simp [cat_i, cat_l, cat_d, cat_rf]) rfl fun X Z => ?_
  unfold pX6_followNumber at hf
  replace hf := tg_i hf
  obtain ⟨t0, hf⟩ := hf
  refine J_aload_n Z.1 0 dX6_followNumber_0 rfl rfl ?_
  refine J_get (v := .int (hI h this 6)) Z.1 dX6_followNumber_1 fl_X6_76 t0 rfl ?_
  refine J_iconst Z.1 (v := 2) (by decide) dX6_followNumber_4 ?_
  refine J_icmp_ne Z.1 15 dX6_followNumber_5 (by decide) (fun c1 => ?_) (fun c1 => ?_)
  · rw [if_neg c1] at hf
    refine J_iconst Z.1 (v := 2) (by decide) dX6_followNumber_15 ?_
    cases hf
    exact J_iret Z.1 Z.2.2.2.2.2 dX6_followNumber_16
  · rw [if_pos c1] at hf
    refine J_aload_n Z.1 0 dX6_followNumber_8 rfl rfl ?_
    refine J_get (v := va_rf (hR h this 8)) Z.1 dX6_followNumber_9 fl_X6_47 t0 rfl ?_
    refine J_tr (fun r2 er2 => ?_)
    replace hf := lt_i hf r2 er2
    refine J_ifnonnull Z.1 17 dX6_followNumber_12 (by decide) (fun c3 => ?_) (fun c3 => ?_)
    · rw [if_neg c3] at hf
      refine J_iconst Z.1 (v := 0) (by decide) dX6_followNumber_17 ?_
      refine J_istore_n Z.1 (lv2 := [(2, .int 0), (0, va_rf (some this)), (1, .int p1)]) dX6_followNumber_18 rfl (zL Z (by decide)) rfl ?_
      refine J_aload_n Z.1 1 dX6_followNumber_19 rfl rfl ?_
      refine J_get (v := .int (hI h this 4)) Z.1 dX6_followNumber_20 fl_X6_65 t0 rfl ?_
      refine J_ti (fun x4 ex4 => ?_)
      replace hf := lt_i hf x4 ex4
      refine J_istore_n Z.1 (lv2 := [(3, .int x4), (2, .int 0), (0, va_rf (some this)), (1, .int p1)]) dX6_followNumber_23 rfl (zL Z (by decide)) rfl ?_
      refine J_lv [2, 3, 1, 0] rfl ?_
      exact pX6_followNumber_l24_ok Z hK t0  FUEL _ _ _ hf
    · rw [if_pos c3] at hf
      refine J_iconst Z.1 (v := 2) (by decide) dX6_followNumber_15 ?_
      cases hf
      exact J_iret Z.1 Z.2.2.2.2.2 dX6_followNumber_16
theorem dX9_behind_0 : decode cX9_behind 0 = .ok (.aload_n 2, 1) := by decide +kernel
theorem dX9_behind_1 : decode cX9_behind 1 = .ok (.getfield 84, 3) := by decide +kernel
theorem dX9_behind_4 : decode cX9_behind 4 = .ok (.getstatic 106, 3) := by decide +kernel
theorem dX9_behind_7 : decode cX9_behind 7 = .ok (.if_acmp .ne 10, 3) := by decide +kernel
theorem dX9_behind_10 : decode cX9_behind 10 = .ok (.aload_n 0, 1) := by decide +kernel
theorem dX9_behind_11 : decode cX9_behind 11 = .ok (.iload_n 1, 1) := by decide +kernel
theorem dX9_behind_12 : decode cX9_behind 12 = .ok (.aload_n 2, 1) := by decide +kernel
theorem dX9_behind_13 : decode cX9_behind 13 = .ok (.invokevirtual 109, 3) := by decide +kernel
theorem dX9_behind_16 : decode cX9_behind 16 = .ok (.ireturn, 1) := by decide +kernel
theorem dX9_behind_17 : decode cX9_behind 17 = .ok (.aload_n 2, 1) := by decide +kernel
theorem dX9_behind_18 : decode cX9_behind 18 = .ok (.getfield 84, 3) := by decide +kernel
theorem dX9_behind_21 : decode cX9_behind 21 = .ok (.getstatic 112, 3) := by decide +kernel
theorem dX9_behind_24 : decode cX9_behind 24 = .ok (.if_acmp .ne 7, 3) := by decide +kernel
theorem dX9_behind_27 : decode cX9_behind 27 = .ok (.iconst (-1), 1) := by decide +kernel
theorem dX9_behind_28 : decode cX9_behind 28 = .ok (.goto 6, 3) := by decide +kernel
theorem dX9_behind_31 : decode cX9_behind 31 = .ok (.iload_n 1, 1) := by decide +kernel
theorem dX9_behind_32 : decode cX9_behind 32 = .ok (.iconst 1, 1) := by decide +kernel
theorem dX9_behind_33 : decode cX9_behind 33 = .ok (.iadd, 1) := by decide +kernel
theorem dX9_behind_34 : decode cX9_behind 34 = .ok (.ireturn, 1) := by decide +kernel
def pX9_behind (E : EC) (g : MT) (h : CT) (this : Nat) (p1 : Int32) (p2 : Nat) : Option ((Int32) × CT) := tg g this 8 (tg g p2 2 (lt (hR h p2 0) fun r2 => (kR (E.1 30) fun a3 => (if r2 = (some a3) then bd2 (pX9_beginStrip g h this p1 p2) fun x10 h8 => (some (x10, h8)) else lt (hR h p2 0) fun r5 => (kR (E.1 31) fun a6 => (if r5 = (some a6) then some ((-1), h) else some ((p1 + 1), h)))))))
set_option maxRecDepth 10000 in
set_option maxHeartbeats 4000000 in
theorem pX9_behind_ok (G : Gx) (dk : Nat) (hK : 2 ≤ dk) {g : MT} {E : EC} (hE : G.2.2.2 = E) {h h0 : CT} {this : Nat} {p1 : Int32} {p2 : Nat} {r0 : Int32} (hf : pX9_behind E g h this p1 p2 = some (r0, h0)) : Ctr G dk yX9_behind cX9_behind 3 (some .int) [va_rf (some this), .int p1, va_rf (some p2)] g h (some (.int r0)) g h0 := by
  refine Ctr.ofZ (lv := [(0, va_rf (some this)), (1, .int p1), (2, va_rf (some p2))]) (by decide +kernel) (by simp [cat_i, cat_l, cat_d, cat_rf]) rfl fun X Z => ?_
  unfold pX9_behind at hf
  replace hf := tg_i hf
  obtain ⟨t0, hf⟩ := hf
  refine J_aload_n Z.1 2 dX9_behind_0 rfl rfl ?_
  replace hf := tg_i hf
  obtain ⟨t1, hf⟩ := hf
  refine J_get (v := va_rf (hR h p2 0)) Z.1 dX9_behind_1 fl_X9_84 t1 rfl ?_
  refine J_tr (fun r2 er2 => ?_)
  replace hf := lt_i hf r2 er2
  replace hf := kR_i hf
  obtain ⟨a3, ea3, hf⟩ := hf
  refine J_gets (i := 30) (v := va_rf (some a3)) Z.1 dX9_behind_4 rfl q_1251 (zEv Z hE ea3) rfl ?_
  refine J_acmp_ne Z.1 17 dX9_behind_7 (by decide) (fun c4 => ?_) (fun c4 => ?_)
  · rw [if_neg c4] at hf
    refine J_aload_n Z.1 2 dX9_behind_17 rfl rfl ?_
    refine J_get (v := va_rf (hR h p2 0)) Z.1 dX9_behind_18 fl_X9_84 t1 rfl ?_
    refine J_tr (fun r5 er5 => ?_)
    replace hf := lt_i hf r5 er5
    replace hf := kR_i hf
    obtain ⟨a6, ea6, hf⟩ := hf
    refine J_gets (i := 31) (v := va_rf (some a6)) Z.1 dX9_behind_21 rfl q_1257 (zEv Z hE ea6) rfl ?_
    refine J_acmp_ne Z.1 31 dX9_behind_24 (by decide) (fun c7 => ?_) (fun c7 => ?_)
    · rw [if_neg c7] at hf
      refine J_iload_n Z.1 1 dX9_behind_31 rfl rfl ?_
      refine J_iconst Z.1 (v := 1) (by decide) dX9_behind_32 ?_
      refine J_iadd Z.1 dX9_behind_33 ?_
      cases hf
      exact J_iret Z.1 Z.2.2.2.2.2 dX9_behind_34
    · rw [if_pos c7] at hf
      refine J_iconst Z.1 (v := (-1)) (by decide) dX9_behind_27 ?_
      refine J_goto Z.1 34 dX9_behind_28 (by decide) ?_
      cases hf
      exact J_iret Z.1 Z.2.2.2.2.2 dX9_behind_34
  · rw [if_pos c4] at hf
    refine J_aload_n Z.1 0 dX9_behind_10 rfl rfl ?_
    refine J_iload_n Z.1 1 dX9_behind_11 rfl rfl ?_
    refine J_aload_n Z.1 2 dX9_behind_12 rfl rfl ?_
    replace hf := bd2_i hf
    obtain ⟨x10, h8, q9, hf⟩ := hf
    refine J_callV (ci := 7) (as := [.int p1, va_rf (some p2)]) (rest := []) (sy := [.int x10]) Z.1 dX9_behind_13 cw_X9_109 (pX9_beginStrip_ok G (dk - 1) (by omega) q9) rfl rfl t0 (zG Z) rfl (by decide) (zF Z (by omega)) (zO Z (by omega) (by decide)) (zM _) Z.2.1 Z.2.1 rfl rfl ?_
    cases hf
    exact J_iret Z.1 Z.2.2.2.2.2 dX9_behind_16
theorem dX9_doFold_0 : decode cX9_doFold 0 = .ok (.aload_n 0, 1) := by decide +kernel
theorem dX9_doFold_1 : decode cX9_doFold 1 = .ok (.getfield 34, 3) := by decide +kernel
theorem dX9_doFold_4 : decode cX9_doFold 4 = .ok (.getfield 77, 3) := by decide +kernel
theorem dX9_doFold_7 : decode cX9_doFold 7 = .ok (.ifCond .le 25, 3) := by decide +kernel
theorem dX9_doFold_10 : decode cX9_doFold 10 = .ok (.aload_n 0, 1) := by decide +kernel
theorem dX9_doFold_11 : decode cX9_doFold 11 = .ok (.getfield 34, 3) := by decide +kernel
theorem dX9_doFold_14 : decode cX9_doFold 14 = .ok (.aload_n 2, 1) := by decide +kernel
theorem dX9_doFold_15 : decode cX9_doFold 15 = .ok (.getfield 189, 3) := by decide +kernel
theorem dX9_doFold_18 : decode cX9_doFold 18 = .ok (.invokevirtual 192, 3) := by decide +kernel
theorem dX9_doFold_21 : decode cX9_doFold 21 = .ok (.ifCond .eq 11, 3) := by decide +kernel
theorem dX9_doFold_24 : decode cX9_doFold 24 = .ok (.aload_n 0, 1) := by decide +kernel
theorem dX9_doFold_25 : decode cX9_doFold 25 = .ok (.iconst 2, 1) := by decide +kernel
theorem dX9_doFold_26 : decode cX9_doFold 26 = .ok (.iload_n 1, 1) := by decide +kernel
theorem dX9_doFold_27 : decode cX9_doFold 27 = .ok (.iconst 0, 1) := by decide +kernel
theorem dX9_doFold_28 : decode cX9_doFold 28 = .ok (.invokevirtual 196, 3) := by decide +kernel
theorem dX9_doFold_31 : decode cX9_doFold 31 = .ok (.ireturn, 1) := by decide +kernel
theorem dX9_doFold_32 : decode cX9_doFold 32 = .ok (.iconst 0, 1) := by decide +kernel
theorem dX9_doFold_33 : decode cX9_doFold 33 = .ok (.istore_n 3, 1) := by decide +kernel
theorem dX9_doFold_34 : decode cX9_doFold 34 = .ok (.aload_n 0, 1) := by decide +kernel
theorem dX9_doFold_35 : decode cX9_doFold 35 = .ok (.getfield 34, 3) := by decide +kernel
theorem dX9_doFold_38 : decode cX9_doFold 38 = .ok (.getfield 77, 3) := by decide +kernel
theorem dX9_doFold_41 : decode cX9_doFold 41 = .ok (.istore 4, 2) := by decide +kernel
theorem dX9_doFold_43 : decode cX9_doFold 43 = .ok (.iload 4, 2) := by decide +kernel
theorem dX9_doFold_45 : decode cX9_doFold 45 = .ok (.iconst 1, 1) := by decide +kernel
theorem dX9_doFold_46 : decode cX9_doFold 46 = .ok (.if_icmp .le 17, 3) := by decide +kernel
theorem dX9_doFold_49 : decode cX9_doFold 49 = .ok (.iinc 3 1, 3) := by decide +kernel
theorem dX9_doFold_52 : decode cX9_doFold 52 = .ok (.iload 4, 2) := by decide +kernel
theorem dX9_doFold_54 : decode cX9_doFold 54 = .ok (.iconst 1, 1) := by decide +kernel
theorem dX9_doFold_55 : decode cX9_doFold 55 = .ok (.iadd, 1) := by decide +kernel
theorem dX9_doFold_56 : decode cX9_doFold 56 = .ok (.iconst 2, 1) := by decide +kernel
theorem dX9_doFold_57 : decode cX9_doFold 57 = .ok (.idiv, 1) := by decide +kernel
theorem dX9_doFold_58 : decode cX9_doFold 58 = .ok (.istore 4, 2) := by decide +kernel
theorem dX9_doFold_60 : decode cX9_doFold 60 = .ok (.goto (-17), 3) := by decide +kernel
theorem dX9_doFold_63 : decode cX9_doFold 63 = .ok (.aload_n 0, 1) := by decide +kernel
theorem dX9_doFold_64 : decode cX9_doFold 64 = .ok (.aload_n 0, 1) := by decide +kernel
theorem dX9_doFold_65 : decode cX9_doFold 65 = .ok (.getfield 34, 3) := by decide +kernel
theorem dX9_doFold_68 : decode cX9_doFold 68 = .ok (.aload_n 2, 1) := by decide +kernel
theorem dX9_doFold_69 : decode cX9_doFold 69 = .ok (.getfield 189, 3) := by decide +kernel
theorem dX9_doFold_72 : decode cX9_doFold 72 = .ok (.invokevirtual 199, 3) := by decide +kernel
theorem dX9_doFold_75 : decode cX9_doFold 75 = .ok (.aload_n 0, 1) := by decide +kernel
theorem dX9_doFold_76 : decode cX9_doFold 76 = .ok (.getfield 34, 3) := by decide +kernel
theorem dX9_doFold_79 : decode cX9_doFold 79 = .ok (.getfield 77, 3) := by decide +kernel
theorem dX9_doFold_82 : decode cX9_doFold 82 = .ok (.aload_n 2, 1) := by decide +kernel
theorem dX9_doFold_83 : decode cX9_doFold 83 = .ok (.getfield 84, 3) := by decide +kernel
theorem dX9_doFold_86 : decode cX9_doFold 86 = .ok (.getstatic 203, 3) := by decide +kernel
theorem dX9_doFold_89 : decode cX9_doFold 89 = .ok (.if_acmp .ne 7, 3) := by decide +kernel
theorem dX9_doFold_92 : decode cX9_doFold 92 = .ok (.iconst 1, 1) := by decide +kernel
theorem dX9_doFold_93 : decode cX9_doFold 93 = .ok (.goto 4, 3) := by decide +kernel
theorem dX9_doFold_96 : decode cX9_doFold 96 = .ok (.iconst 0, 1) := by decide +kernel
theorem dX9_doFold_97 : decode cX9_doFold 97 = .ok (.aload_n 0, 1) := by decide +kernel
theorem dX9_doFold_98 : decode cX9_doFold 98 = .ok (.getfield 27, 3) := by decide +kernel
theorem dX9_doFold_101 : decode cX9_doFold 101 = .ok (.invokevirtual 206, 3) := by decide +kernel
theorem dX9_doFold_104 : decode cX9_doFold 104 = .ok (.aload_n 0, 1) := by decide +kernel
theorem dX9_doFold_105 : decode cX9_doFold 105 = .ok (.getfield 34, 3) := by decide +kernel
theorem dX9_doFold_108 : decode cX9_doFold 108 = .ok (.getfield 173, 3) := by decide +kernel
theorem dX9_doFold_111 : decode cX9_doFold 111 = .ok (.aload_n 2, 1) := by decide +kernel
theorem dX9_doFold_112 : decode cX9_doFold 112 = .ok (.getfield 176, 3) := by decide +kernel
theorem dX9_doFold_115 : decode cX9_doFold 115 = .ok (.aload_n 0, 1) := by decide +kernel
theorem dX9_doFold_116 : decode cX9_doFold 116 = .ok (.getfield 27, 3) := by decide +kernel
theorem dX9_doFold_119 : decode cX9_doFold 119 = .ok (.invokevirtual 179, 3) := by decide +kernel
theorem dX9_doFold_122 : decode cX9_doFold 122 = .ok (.aload_n 0, 1) := by decide +kernel
theorem dX9_doFold_123 : decode cX9_doFold 123 = .ok (.getfield 38, 3) := by decide +kernel
theorem dX9_doFold_126 : decode cX9_doFold 126 = .ok (.iload_n 1, 1) := by decide +kernel
theorem dX9_doFold_127 : decode cX9_doFold 127 = .ok (.aload_n 2, 1) := by decide +kernel
theorem dX9_doFold_128 : decode cX9_doFold 128 = .ok (.aload_n 0, 1) := by decide +kernel
theorem dX9_doFold_129 : decode cX9_doFold 129 = .ok (.getfield 34, 3) := by decide +kernel
theorem dX9_doFold_132 : decode cX9_doFold 132 = .ok (.getfield 77, 3) := by decide +kernel
theorem dX9_doFold_135 : decode cX9_doFold 135 = .ok (.iload_n 3, 1) := by decide +kernel
theorem dX9_doFold_136 : decode cX9_doFold 136 = .ok (.invokevirtual 210, 3) := by decide +kernel
theorem dX9_doFold_139 : decode cX9_doFold 139 = .ok (.iconst 1, 1) := by decide +kernel
theorem dX9_doFold_140 : decode cX9_doFold 140 = .ok (.ireturn, 1) := by decide +kernel
def pX9_doFold_b97 (E : EC) (g : MT) (this : Nat) (p1 : Int32) (p2 : Nat) (l3 : Int32) (s0 : Nat) (r81 : Option Nat) (s2 : Int32) (s3 : Int32) (h : CT) : Option ((Int32) × CT) := lt (hR h this 2) fun r1 => (tg g s0 8 (nn r81 fun a81 => (nn r1 fun a1 => (bd (pX9_halve g h s0 a81 s2 s3 a1) fun h3 => (lt (hR h3 this 4) fun r5 => (nn r5 fun a5 => (tg g a5 3 (lt (hR h3 a5 2) fun r7 => (tg g p2 2 (lt (hR h3 this 2) fun r9 => (nn r7 fun a7 => (tg g a7 7 (nn r9 fun a9 => (bd (pX8_keep g h3 a7 (hI h3 p2 4) a9) fun h11 => (lt (hR h11 this 5) fun r13 => (lt (hR h11 this 4) fun r14 => (nn r14 fun a14 => (tg g a14 3 (nn r13 fun a13 => (tg g a13 9 (bd (pX10_fold g h11 a13 p1 p2 (hI h11 a14 5) l3) fun h17 => (some (1, h17)))))))))))))))))))))))
set_option maxRecDepth 10000 in
set_option maxHeartbeats 4000000 in
theorem pX9_doFold_b97_ok {X : Cx} {G : Gx} {dk : Nat} {g : MT} {r0 : Int32} {h0 : CT} {this : Nat} {p1 : Int32} {p2 : Nat} (Z : Zx X G cX9_doFold RX9 5 dk (some .boolean) (some (.int r0)) g h0) (hK : 3 ≤ dk) {E : EC} (hE : G.2.2.2 = E) (t0 : gT g this = 8) (l3 : Int32) (s0 : Nat) (r81 : Option Nat) (s2 : Int32) (s3 : Int32) (h : CT) (hf : pX9_doFold_b97 E g this p1 p2 l3 s0 r81 s2 s3 h = some (r0, h0)) : J X g h 97 [(0, va_rf (some this)), (1, .int p1), (2, va_rf (some p2)), (3, .int l3)] [.int s3, .int s2, va_rf r81, va_rf (some s0)] := by
  unfold pX9_doFold_b97 at hf
  refine J_aload_n Z.1 0 dX9_doFold_97 rfl rfl ?_
  refine J_get (v := va_rf (hR h this 2)) Z.1 dX9_doFold_98 fl_X9_27 t0 rfl ?_
  refine J_tr (fun r1 er1 => ?_)
  replace hf := lt_i hf r1 er1
  replace hf := tg_i hf
  obtain ⟨t2, hf⟩ := hf
  replace hf := nn_i hf
  obtain ⟨a81, rfl, hf⟩ := hf
  replace hf := nn_i hf
  obtain ⟨a1, rfl, hf⟩ := hf
  replace hf := bd_i hf
  obtain ⟨h3, q4, hf⟩ := hf
  refine J_callV (ci := 7) (as := [va_rf (some a81), .int s2, .int s3, va_rf (some a1)]) (rest := []) (sy := []) Z.1 dX9_doFold_101 cw_X9_206 (pX9_halve_ok G (dk - 1) (by omega) q4) rfl rfl t2 (zG Z) rfl (by decide) (zF Z (by omega)) (zO Z (by omega) (by decide)) (zM _) Z.2.1 Z.2.1 rfl rfl ?_
  refine J_aload_n Z.1 0 dX9_doFold_104 rfl rfl ?_
  refine J_get (v := va_rf (hR h3 this 4)) Z.1 dX9_doFold_105 fl_X9_34 t0 rfl ?_
  refine J_tr (fun r5 er5 => ?_)
  replace hf := lt_i hf r5 er5
  replace hf := nn_i hf
  obtain ⟨a5, rfl, hf⟩ := hf
  replace hf := tg_i hf
  obtain ⟨t6, hf⟩ := hf
  refine J_get (v := va_rf (hR h3 a5 2)) Z.1 dX9_doFold_108 fl_X9_173 t6 rfl ?_
  refine J_tr (fun r7 er7 => ?_)
  replace hf := lt_i hf r7 er7
  refine J_aload_n Z.1 2 dX9_doFold_111 rfl rfl ?_
  replace hf := tg_i hf
  obtain ⟨t8, hf⟩ := hf
  refine J_get (v := .int (hI h3 p2 4)) Z.1 dX9_doFold_112 fl_X9_176 t8 rfl ?_
  refine J_aload_n Z.1 0 dX9_doFold_115 rfl rfl ?_
  refine J_get (v := va_rf (hR h3 this 2)) Z.1 dX9_doFold_116 fl_X9_27 t0 rfl ?_
  refine J_tr (fun r9 er9 => ?_)
  replace hf := lt_i hf r9 er9
  replace hf := nn_i hf
  obtain ⟨a7, rfl, hf⟩ := hf
  replace hf := tg_i hf
  obtain ⟨t10, hf⟩ := hf
  replace hf := nn_i hf
  obtain ⟨a9, rfl, hf⟩ := hf
  replace hf := bd_i hf
  obtain ⟨h11, q12, hf⟩ := hf
  refine J_callV (ci := 6) (as := [.int (hI h3 p2 4), va_rf (some a9)]) (rest := []) (sy := []) Z.1 dX9_doFold_119 cw_X9_179 (pX8_keep_ok G (dk - 1) (by omega) q12) rfl rfl t10 (zG Z) rfl (by decide) (zF Z (by omega)) (zO Z (by omega) (by decide)) (zM _) Z.2.1 Z.2.1 rfl rfl ?_
  refine J_aload_n Z.1 0 dX9_doFold_122 rfl rfl ?_
  refine J_get (v := va_rf (hR h11 this 5)) Z.1 dX9_doFold_123 fl_X9_38 t0 rfl ?_
  refine J_tr (fun r13 er13 => ?_)
  replace hf := lt_i hf r13 er13
  refine J_iload_n Z.1 1 dX9_doFold_126 rfl rfl ?_
  refine J_aload_n Z.1 2 dX9_doFold_127 rfl rfl ?_
  refine J_aload_n Z.1 0 dX9_doFold_128 rfl rfl ?_
  refine J_get (v := va_rf (hR h11 this 4)) Z.1 dX9_doFold_129 fl_X9_34 t0 rfl ?_
  refine J_tr (fun r14 er14 => ?_)
  replace hf := lt_i hf r14 er14
  replace hf := nn_i hf
  obtain ⟨a14, rfl, hf⟩ := hf
  replace hf := tg_i hf
  obtain ⟨t15, hf⟩ := hf
  refine J_get (v := .int (hI h11 a14 5)) Z.1 dX9_doFold_132 fl_X9_77 t15 rfl ?_
  refine J_iload_n Z.1 3 dX9_doFold_135 rfl rfl ?_
  replace hf := nn_i hf
  obtain ⟨a13, rfl, hf⟩ := hf
  replace hf := tg_i hf
  obtain ⟨t16, hf⟩ := hf
  replace hf := bd_i hf
  obtain ⟨h17, q18, hf⟩ := hf
  refine J_callV (ci := 8) (as := [.int p1, va_rf (some p2), .int (hI h11 a14 5), .int l3]) (rest := []) (sy := []) Z.1 dX9_doFold_136 cw_X9_210 (pX10_fold_ok G (dk - 1) (by omega) q18) rfl rfl t16 (zG Z) rfl (by decide) (zF Z (by omega)) (zO Z (by omega) (by decide)) (zM _) Z.2.1 Z.2.1 rfl rfl ?_
  refine J_iconst Z.1 (v := 1) (by decide) dX9_doFold_139 ?_
  cases hf
  exact J_zret Z.1 Z.2.2.2.2.2 (z_n (Or.inr rfl)) dX9_doFold_140
def pX9_doFold_b43 (E : EC) (g : MT) (this : Nat) (p1 : Int32) (p2 : Nat) (k43 : Int32 → Int32 → CT → Option ((Int32) × CT)) (l3 : Int32) (l4 : Int32) (h : CT) : Option ((Int32) × CT) := if l4 ≤ 1 then lt (hR h this 4) fun r2 => (tg g p2 2 (nn r2 fun a2 => (tg g a2 3 (bd (pX3_rowAt g h a2 (hI h p2 1)) fun r5 => (lt (hR h this 4) fun r7 => (nn r7 fun a7 => (tg g a7 3 (lt (hR h p2 0) fun r9 => (kR (E.1 29) fun a10 => (if r9 = (some a10) then pX9_doFold_b97 E g this p1 p2  l3 this r5 (hI h a7 5) 1 h else pX9_doFold_b97 E g this p1 p2  l3 this r5 (hI h a7 5) 0 h)))))))))) else lt (l3 + 1) fun x12 => (lt ((l4 + 1) / 2) fun x13 => (k43 x12 x13 h))
set_option maxRecDepth 10000 in
set_option maxHeartbeats 4000000 in
theorem pX9_doFold_b43_ok {X : Cx} {G : Gx} {dk : Nat} {g : MT} {r0 : Int32} {h0 : CT} {this : Nat} {p1 : Int32} {p2 : Nat} {k43 : Int32 → Int32 → CT → Option ((Int32) × CT)} (Z : Zx X G cX9_doFold RX9 5 dk (some .boolean) (some (.int r0)) g h0) (hK : 3 ≤ dk) {E : EC} (hE : G.2.2.2 = E) (t0 : gT g this = 8) (hk43 : ∀ (l3 : Int32) (l4 : Int32) (h : CT), k43 l3 l4 h = some (r0, h0) → J X g h 43 [(0, va_rf (some this)), (1, .int p1), (2, va_rf (some p2)), (3, .int l3), (4, .int l4)] []) (l3 : Int32) (l4 : Int32) (h : CT) (hf : pX9_doFold_b43 E g this p1 p2 k43 l3 l4 h = some (r0, h0)) : J X g h 43 [(0, va_rf (some this)), (1, .int p1), (2, va_rf (some p2)), (3, .int l3), (4, .int l4)] [] := by
  unfold pX9_doFold_b43 at hf
  refine J_iload Z.1 4 dX9_doFold_43 rfl ?_
  refine J_iconst Z.1 (v := 1) (by decide) dX9_doFold_45 ?_
  refine J_icmp_le Z.1 63 dX9_doFold_46 (by decide) (fun c1 => ?_) (fun c1 => ?_)
  · rw [if_pos c1] at hf
    refine J_aload_n Z.1 0 dX9_doFold_63 rfl rfl ?_
    refine J_aload_n Z.1 0 dX9_doFold_64 rfl rfl ?_
    refine J_get (v := va_rf (hR h this 4)) Z.1 dX9_doFold_65 fl_X9_34 t0 rfl ?_
    refine J_tr (fun r2 er2 => ?_)
    replace hf := lt_i hf r2 er2
    refine J_aload_n Z.1 2 dX9_doFold_68 rfl rfl ?_
    replace hf := tg_i hf
    obtain ⟨t3, hf⟩ := hf
    refine J_get (v := .int (hI h p2 1)) Z.1 dX9_doFold_69 fl_X9_189 t3 rfl ?_
    replace hf := nn_i hf
    obtain ⟨a2, rfl, hf⟩ := hf
    replace hf := tg_i hf
    obtain ⟨t4, hf⟩ := hf
    replace hf := bd_i hf
    obtain ⟨r5, q6, hf⟩ := hf
    refine J_callV (ci := 2) (as := [.int (hI h p2 1)]) (rest := [va_rf (some this)]) (sy := [va_rf r5, va_rf (some this)]) Z.1 dX9_doFold_72 cw_X9_199 (pX3_rowAt_ok G (dk - 1) (by omega) q6) rfl rfl t4 (zG Z) rfl (by simp [cat_i, cat_l, cat_d, cat_rf]) (zF Z (by omega)) (zO Z (by omega) (by decide)) (zM _) Z.2.1 Z.2.1 rfl rfl ?_
    refine J_aload_n Z.1 0 dX9_doFold_75 rfl rfl ?_
    refine J_get (v := va_rf (hR h this 4)) Z.1 dX9_doFold_76 fl_X9_34 t0 rfl ?_
    refine J_tr (fun r7 er7 => ?_)
    replace hf := lt_i hf r7 er7
    replace hf := nn_i hf
    obtain ⟨a7, rfl, hf⟩ := hf
    replace hf := tg_i hf
    obtain ⟨t8, hf⟩ := hf
    refine J_get (v := .int (hI h a7 5)) Z.1 dX9_doFold_79 fl_X9_77 t8 rfl ?_
    refine J_aload_n Z.1 2 dX9_doFold_82 rfl rfl ?_
    refine J_get (v := va_rf (hR h p2 0)) Z.1 dX9_doFold_83 fl_X9_84 t3 rfl ?_
    refine J_tr (fun r9 er9 => ?_)
    replace hf := lt_i hf r9 er9
    replace hf := kR_i hf
    obtain ⟨a10, ea10, hf⟩ := hf
    refine J_gets (i := 29) (v := va_rf (some a10)) Z.1 dX9_doFold_86 rfl q_1077 (zEv Z hE ea10) rfl ?_
    refine J_acmp_ne Z.1 96 dX9_doFold_89 (by decide) (fun c11 => ?_) (fun c11 => ?_)
    · rw [if_neg c11] at hf
      refine J_iconst Z.1 (v := 0) (by decide) dX9_doFold_96 ?_
      refine J_lv [0, 1, 2, 3] rfl ?_
      exact pX9_doFold_b97_ok Z hK hE t0  _ _ _ _ _ _ hf
    · rw [if_pos c11] at hf
      refine J_iconst Z.1 (v := 1) (by decide) dX9_doFold_92 ?_
      refine J_goto Z.1 97 dX9_doFold_93 (by decide) ?_
      refine J_lv [0, 1, 2, 3] rfl ?_
      exact pX9_doFold_b97_ok Z hK hE t0  _ _ _ _ _ _ hf
  · rw [if_neg c1] at hf
    refine J_iinc Z.1 (v := 1) (lv2 := [(3, .int (l3 + 1)), (0, va_rf (some this)), (1, .int p1), (2, va_rf (some p2)), (4, .int l4)]) 3 dX9_doFold_49 rfl (by decide) (zL Z (by decide)) rfl ?_
    obtain ⟨x12, ex12⟩ : ∃ z, z = (l3 + 1) := ⟨_, rfl⟩
    replace hf := lt_i hf x12 ex12
    rw [← ex12]
    refine J_iload Z.1 4 dX9_doFold_52 rfl ?_
    refine J_iconst Z.1 (v := 1) (by decide) dX9_doFold_54 ?_
    refine J_iadd Z.1 dX9_doFold_55 ?_
    refine J_iconst Z.1 (v := 2) (by decide) dX9_doFold_56 ?_
    refine J_idiv Z.1 (by decide) dX9_doFold_57 ?_
    refine J_ti (fun x13 ex13 => ?_)
    replace hf := lt_i hf x13 ex13
    refine J_istore Z.1 (lv2 := [(4, .int x13), (3, .int x12), (0, va_rf (some this)), (1, .int p1), (2, va_rf (some p2))]) dX9_doFold_58 (zL Z (by decide)) rfl ?_
    refine J_goto Z.1 43 dX9_doFold_60 (by decide) ?_
    refine J_lv [2, 3, 4, 1, 0] rfl ?_
    exact hk43 _ _ _ hf
def pX9_doFold_l43 (E : EC) (g : MT) (this : Nat) (p1 : Int32) (p2 : Nat) : Nat → Int32 → Int32 → CT → Option ((Int32) × CT)
  | 0, _, _, _ => none
  | n + 1, l3, l4, h => pX9_doFold_b43 E g this p1 p2 (pX9_doFold_l43 E g this p1 p2 n) l3 l4 h
theorem pX9_doFold_l43_ok {X : Cx} {G : Gx} {dk : Nat} {g : MT} {r0 : Int32} {h0 : CT} {this : Nat} {p1 : Int32} {p2 : Nat} (Z : Zx X G cX9_doFold RX9 5 dk (some .boolean) (some (.int r0)) g h0) (hK : 3 ≤ dk) {E : EC} (hE : G.2.2.2 = E) (t0 : gT g this = 8) : ∀ (n : Nat) (l3 : Int32) (l4 : Int32) (h : CT), pX9_doFold_l43 E g this p1 p2 n l3 l4 h = some (r0, h0) → J X g h 43 [(0, va_rf (some this)), (1, .int p1), (2, va_rf (some p2)), (3, .int l3), (4, .int l4)] [] := by
  intro n
  induction n with
  | zero => intro l3 l4 h hf; cases hf
  | succ n ih => intro l3 l4 h hf; exact pX9_doFold_b43_ok Z hK hE t0 ih l3 l4 h hf
def pX9_doFold_b32 (E : EC) (g : MT) (this : Nat) (p1 : Int32) (p2 : Nat) (h : CT) : Option ((Int32) × CT) := lt (hR h this 4) fun r1 => (nn r1 fun a1 => (tg g a1 3 (lt (hI h a1 5) fun x3 => (pX9_doFold_l43 E g this p1 p2  FUEL 0 x3 h))))
set_option maxRecDepth 10000 in
set_option maxHeartbeats 4000000 in
theorem pX9_doFold_b32_ok {X : Cx} {G : Gx} {dk : Nat} {g : MT} {r0 : Int32} {h0 : CT} {this : Nat} {p1 : Int32} {p2 : Nat} (Z : Zx X G cX9_doFold RX9 5 dk (some .boolean) (some (.int r0)) g h0) (hK : 3 ≤ dk) {E : EC} (hE : G.2.2.2 = E) (t0 : gT g this = 8) (h : CT) (hf : pX9_doFold_b32 E g this p1 p2 h = some (r0, h0)) : J X g h 32 [(0, va_rf (some this)), (1, .int p1), (2, va_rf (some p2))] [] := by
  unfold pX9_doFold_b32 at hf
  refine J_iconst Z.1 (v := 0) (by decide) dX9_doFold_32 ?_
  refine J_istore_n Z.1 (lv2 := [(3, .int 0), (0, va_rf (some this)), (1, .int p1), (2, va_rf (some p2))]) dX9_doFold_33 rfl (zL Z (by decide)) rfl ?_
  refine J_aload_n Z.1 1 dX9_doFold_34 rfl rfl ?_
  refine J_get (v := va_rf (hR h this 4)) Z.1 dX9_doFold_35 fl_X9_34 t0 rfl ?_
  refine J_tr (fun r1 er1 => ?_)
  replace hf := lt_i hf r1 er1
  replace hf := nn_i hf
  obtain ⟨a1, rfl, hf⟩ := hf
  replace hf := tg_i hf
  obtain ⟨t2, hf⟩ := hf
  refine J_get (v := .int (hI h a1 5)) Z.1 dX9_doFold_38 fl_X9_77 t2 rfl ?_
  refine J_ti (fun x3 ex3 => ?_)
  replace hf := lt_i hf x3 ex3
  refine J_istore Z.1 (lv2 := [(4, .int x3), (3, .int 0), (0, va_rf (some this)), (1, .int p1), (2, va_rf (some p2))]) dX9_doFold_41 (zL Z (by decide)) rfl ?_
  refine J_lv [2, 3, 4, 1, 0] rfl ?_
  exact pX9_doFold_l43_ok Z hK hE t0  FUEL _ _ _ hf
def pX9_doFold (E : EC) (g : MT) (h : CT) (this : Nat) (p1 : Int32) (p2 : Nat) : Option ((Int32) × CT) := tg g this 8 (lt (hR h this 4) fun r1 => (nn r1 fun a1 => (tg g a1 3 (if (hI h a1 5) ≤ 0 then pX9_doFold_b32 E g this p1 p2  h else lt (hR h this 4) fun r4 => (tg g p2 2 (nn r4 fun a4 => (tg g a4 3 (bd (pX3_isMissing g h a4 (hI h p2 1)) fun x7 => (if x7 = 0 then pX9_doFold_b32 E g this p1 p2  h else bd2 (pX9_trap g h this 2 p1 0) fun x12 h10 => (bz x12 (some (x12, h10))))))))))))
set_option maxRecDepth 10000 in
set_option maxHeartbeats 4000000 in
theorem pX9_doFold_ok (G : Gx) (dk : Nat) (hK : 3 ≤ dk) {g : MT} {E : EC} (hE : G.2.2.2 = E) {h h0 : CT} {this : Nat} {p1 : Int32} {p2 : Nat} {r0 : Int32} (hf : pX9_doFold E g h this p1 p2 = some (r0, h0)) : Ctr G dk yX9_doFold cX9_doFold 5 (some .boolean) [va_rf (some this), .int p1, va_rf (some p2)] g h (some (.int r0)) g h0 := by
  refine Ctr.ofZ (lv := [(0, va_rf (some this)), (1, .int p1), (2, va_rf (some p2))]) (by decide +kernel) (by simp [cat_i, cat_l, cat_d, cat_rf]) rfl fun X Z => ?_
  unfold pX9_doFold at hf
  replace hf := tg_i hf
  obtain ⟨t0, hf⟩ := hf
  refine J_aload_n Z.1 0 dX9_doFold_0 rfl rfl ?_
  refine J_get (v := va_rf (hR h this 4)) Z.1 dX9_doFold_1 fl_X9_34 t0 rfl ?_
  refine J_tr (fun r1 er1 => ?_)
  replace hf := lt_i hf r1 er1
  replace hf := nn_i hf
  obtain ⟨a1, rfl, hf⟩ := hf
  replace hf := tg_i hf
  obtain ⟨t2, hf⟩ := hf
  refine J_get (v := .int (hI h a1 5)) Z.1 dX9_doFold_4 fl_X9_77 t2 rfl ?_
  refine J_if_le Z.1 32 dX9_doFold_7 (by decide) (fun c3 => ?_) (fun c3 => ?_)
  · rw [if_pos c3] at hf
    exact pX9_doFold_b32_ok Z hK hE t0  _ hf
  · rw [if_neg c3] at hf
    refine J_aload_n Z.1 0 dX9_doFold_10 rfl rfl ?_
    refine J_get (v := va_rf (hR h this 4)) Z.1 dX9_doFold_11 fl_X9_34 t0 rfl ?_
    refine J_tr (fun r4 er4 => ?_)
    replace hf := lt_i hf r4 er4
    refine J_aload_n Z.1 2 dX9_doFold_14 rfl rfl ?_
    replace hf := tg_i hf
    obtain ⟨t5, hf⟩ := hf
    refine J_get (v := .int (hI h p2 1)) Z.1 dX9_doFold_15 fl_X9_189 t5 rfl ?_
    replace hf := nn_i hf
    obtain ⟨a4, rfl, hf⟩ := hf
    replace hf := tg_i hf
    obtain ⟨t6, hf⟩ := hf
    replace hf := bd_i hf
    obtain ⟨x7, q8, hf⟩ := hf
    refine J_callV (ci := 2) (as := [.int (hI h p2 1)]) (rest := []) (sy := [.int x7]) Z.1 dX9_doFold_18 cw_X9_192 (pX3_isMissing_ok G (dk - 1) (by omega) q8) rfl rfl t6 (zG Z) rfl (by decide) (zF Z (by omega)) (zO Z (by omega) (by decide)) (zM _) Z.2.1 Z.2.1 rfl rfl ?_
    refine J_if_eq Z.1 32 dX9_doFold_21 (by decide) (fun c9 => ?_) (fun c9 => ?_)
    · rw [if_pos c9] at hf
      exact pX9_doFold_b32_ok Z hK hE t0  _ hf
    · rw [if_neg c9] at hf
      refine J_aload_n Z.1 0 dX9_doFold_24 rfl rfl ?_
      refine J_iconst Z.1 (v := 2) (by decide) dX9_doFold_25 ?_
      refine J_iload_n Z.1 1 dX9_doFold_26 rfl rfl ?_
      refine J_iconst Z.1 (v := 0) (by decide) dX9_doFold_27 ?_
      replace hf := bd2_i hf
      obtain ⟨x12, h10, q11, hf⟩ := hf
      refine J_callV (ci := 7) (as := [.int 2, .int p1, .int 0]) (rest := []) (sy := [.int x12]) Z.1 dX9_doFold_28 cw_X9_196 (pX9_trap_ok G (dk - 1) (by omega) q11) rfl rfl t0 (zG Z) rfl (by decide) (zF Z (by omega)) (zO Z (by omega) (by decide)) (zM _) Z.2.1 Z.2.1 rfl rfl ?_
      replace hf := bz_i hf
      obtain ⟨z13, hf⟩ := hf
      cases hf
      exact J_zret Z.1 Z.2.2.2.2.2 (z_n z13) dX9_doFold_31
