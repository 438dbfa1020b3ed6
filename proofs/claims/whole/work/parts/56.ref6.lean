/-! written by wip/whole/gen.py out of the printed bytecode -/
theorem dX13_beginning_0 : decode cX13_beginning 0 = .ok (.aload_n 0, 1) := by decide +kernel
theorem dX13_beginning_1 : decode cX13_beginning 1 = .ok (.iload_n 1, 1) := by decide +kernel
theorem dX13_beginning_2 : decode cX13_beginning 2 = .ok (.iconst 0, 1) := by decide +kernel
theorem dX13_beginning_3 : decode cX13_beginning 3 = .ok (.invokevirtual 381, 3) := by decide +kernel
theorem dX13_beginning_6 : decode cX13_beginning 6 = .ok (.istore_n 2, 1) := by decide +kernel
theorem dX13_beginning_7 : decode cX13_beginning 7 = .ok (.iload_n 2, 1) := by decide +kernel
theorem dX13_beginning_8 : decode cX13_beginning 8 = .ok (.invokestatic 395, 3) := by decide +kernel
theorem dX13_beginning_11 : decode cX13_beginning 11 = .ok (.istore_n 3, 1) := by decide +kernel
theorem dX13_beginning_12 : decode cX13_beginning 12 = .ok (.aload_n 0, 1) := by decide +kernel
theorem dX13_beginning_13 : decode cX13_beginning 13 = .ok (.getfield 398, 3) := by decide +kernel
theorem dX13_beginning_16 : decode cX13_beginning 16 = .ok (.iconst 1, 1) := by decide +kernel
theorem dX13_beginning_17 : decode cX13_beginning 17 = .ok (.iadd, 1) := by decide +kernel
theorem dX13_beginning_18 : decode cX13_beginning 18 = .ok (.aload_n 0, 1) := by decide +kernel
theorem dX13_beginning_19 : decode cX13_beginning 19 = .ok (.getfield 401, 3) := by decide +kernel
theorem dX13_beginning_22 : decode cX13_beginning 22 = .ok (.invokestatic 178, 3) := by decide +kernel
theorem dX13_beginning_25 : decode cX13_beginning 25 = .ok (.istore 4, 2) := by decide +kernel
theorem dX13_beginning_27 : decode cX13_beginning 27 = .ok (.iload_n 3, 1) := by decide +kernel
theorem dX13_beginning_28 : decode cX13_beginning 28 = .ok (.ifCond .lt 16, 3) := by decide +kernel
theorem dX13_beginning_31 : decode cX13_beginning 31 = .ok (.iload 4, 2) := by decide +kernel
theorem dX13_beginning_33 : decode cX13_beginning 33 = .ok (.aload_n 0, 1) := by decide +kernel
theorem dX13_beginning_34 : decode cX13_beginning 34 = .ok (.getfield 44, 3) := by decide +kernel
theorem dX13_beginning_37 : decode cX13_beginning 37 = .ok (.iload_n 3, 1) := by decide +kernel
theorem dX13_beginning_38 : decode cX13_beginning 38 = .ok (.iaload, 1) := by decide +kernel
theorem dX13_beginning_39 : decode cX13_beginning 39 = .ok (.invokestatic 178, 3) := by decide +kernel
theorem dX13_beginning_42 : decode cX13_beginning 42 = .ok (.istore 4, 2) := by decide +kernel
theorem dX13_beginning_44 : decode cX13_beginning 44 = .ok (.iload_n 2, 1) := by decide +kernel
theorem dX13_beginning_45 : decode cX13_beginning 45 = .ok (.invokestatic 354, 3) := by decide +kernel
theorem dX13_beginning_48 : decode cX13_beginning 48 = .ok (.ifCond .ne 9, 3) := by decide +kernel
theorem dX13_beginning_51 : decode cX13_beginning 51 = .ok (.iload_n 2, 1) := by decide +kernel
theorem dX13_beginning_52 : decode cX13_beginning 52 = .ok (.bipush 20, 2) := by decide +kernel
theorem dX13_beginning_54 : decode cX13_beginning 54 = .ok (.if_icmp .ne 7, 3) := by decide +kernel
theorem dX13_beginning_57 : decode cX13_beginning 57 = .ok (.iconst 1, 1) := by decide +kernel
theorem dX13_beginning_58 : decode cX13_beginning 58 = .ok (.goto 4, 3) := by decide +kernel
theorem dX13_beginning_61 : decode cX13_beginning 61 = .ok (.iconst 0, 1) := by decide +kernel
theorem dX13_beginning_62 : decode cX13_beginning 62 = .ok (.istore 5, 2) := by decide +kernel
theorem dX13_beginning_64 : decode cX13_beginning 64 = .ok (.iload 5, 2) := by decide +kernel
theorem dX13_beginning_66 : decode cX13_beginning 66 = .ok (.ifCond .ne 26, 3) := by decide +kernel
theorem dX13_beginning_69 : decode cX13_beginning 69 = .ok (.iload_n 2, 1) := by decide +kernel
theorem dX13_beginning_70 : decode cX13_beginning 70 = .ok (.bipush 21, 2) := by decide +kernel
theorem dX13_beginning_72 : decode cX13_beginning 72 = .ok (.if_icmp .eq 20, 3) := by decide +kernel
theorem dX13_beginning_75 : decode cX13_beginning 75 = .ok (.iload_n 2, 1) := by decide +kernel
theorem dX13_beginning_76 : decode cX13_beginning 76 = .ok (.bipush 22, 2) := by decide +kernel
theorem dX13_beginning_78 : decode cX13_beginning 78 = .ok (.if_icmp .eq 14, 3) := by decide +kernel
theorem dX13_beginning_81 : decode cX13_beginning 81 = .ok (.aload_n 0, 1) := by decide +kernel
theorem dX13_beginning_82 : decode cX13_beginning 82 = .ok (.iload_n 1, 1) := by decide +kernel
theorem dX13_beginning_83 : decode cX13_beginning 83 = .ok (.bipush 6, 2) := by decide +kernel
theorem dX13_beginning_85 : decode cX13_beginning 85 = .ok (.invokevirtual 381, 3) := by decide +kernel
theorem dX13_beginning_88 : decode cX13_beginning 88 = .ok (.iconst 1, 1) := by decide +kernel
theorem dX13_beginning_89 : decode cX13_beginning 89 = .ok (.if_icmp .ne 14, 3) := by decide +kernel
theorem dX13_beginning_92 : decode cX13_beginning 92 = .ok (.iload 4, 2) := by decide +kernel
theorem dX13_beginning_94 : decode cX13_beginning 94 = .ok (.aload_n 0, 1) := by decide +kernel
theorem dX13_beginning_95 : decode cX13_beginning 95 = .ok (.getfield 404, 3) := by decide +kernel
theorem dX13_beginning_98 : decode cX13_beginning 98 = .ok (.invokestatic 178, 3) := by decide +kernel
theorem dX13_beginning_101 : decode cX13_beginning 101 = .ok (.istore 4, 2) := by decide +kernel
theorem dX13_beginning_103 : decode cX13_beginning 103 = .ok (.iload 5, 2) := by decide +kernel
theorem dX13_beginning_105 : decode cX13_beginning 105 = .ok (.ifCond .eq 14, 3) := by decide +kernel
theorem dX13_beginning_108 : decode cX13_beginning 108 = .ok (.iload 4, 2) := by decide +kernel
theorem dX13_beginning_110 : decode cX13_beginning 110 = .ok (.aload_n 0, 1) := by decide +kernel
theorem dX13_beginning_111 : decode cX13_beginning 111 = .ok (.getfield 407, 3) := by decide +kernel
theorem dX13_beginning_114 : decode cX13_beginning 114 = .ok (.invokestatic 178, 3) := by decide +kernel
theorem dX13_beginning_117 : decode cX13_beginning 117 = .ok (.istore 4, 2) := by decide +kernel
theorem dX13_beginning_119 : decode cX13_beginning 119 = .ok (.iload_n 2, 1) := by decide +kernel
theorem dX13_beginning_120 : decode cX13_beginning 120 = .ok (.bipush 21, 2) := by decide +kernel
theorem dX13_beginning_122 : decode cX13_beginning 122 = .ok (.if_icmp .eq 10, 3) := by decide +kernel
theorem dX13_beginning_125 : decode cX13_beginning 125 = .ok (.iload_n 2, 1) := by decide +kernel
theorem dX13_beginning_126 : decode cX13_beginning 126 = .ok (.invokestatic 357, 3) := by decide +kernel
theorem dX13_beginning_129 : decode cX13_beginning 129 = .ok (.ifCond .eq 24, 3) := by decide +kernel
theorem dX13_beginning_132 : decode cX13_beginning 132 = .ok (.iload 4, 2) := by decide +kernel
theorem dX13_beginning_134 : decode cX13_beginning 134 = .ok (.aload_n 0, 1) := by decide +kernel
theorem dX13_beginning_135 : decode cX13_beginning 135 = .ok (.aload_n 0, 1) := by decide +kernel
theorem dX13_beginning_136 : decode cX13_beginning 136 = .ok (.getfield 38, 3) := by decide +kernel
theorem dX13_beginning_139 : decode cX13_beginning 139 = .ok (.aload_n 0, 1) := by decide +kernel
theorem dX13_beginning_140 : decode cX13_beginning 140 = .ok (.iload_n 1, 1) := by decide +kernel
theorem dX13_beginning_141 : decode cX13_beginning 141 = .ok (.iconst 1, 1) := by decide +kernel
theorem dX13_beginning_142 : decode cX13_beginning 142 = .ok (.invokevirtual 381, 3) := by decide +kernel
theorem dX13_beginning_145 : decode cX13_beginning 145 = .ok (.invokevirtual 410, 3) := by decide +kernel
theorem dX13_beginning_148 : decode cX13_beginning 148 = .ok (.invokestatic 178, 3) := by decide +kernel
theorem dX13_beginning_151 : decode cX13_beginning 151 = .ok (.istore 4, 2) := by decide +kernel
theorem dX13_beginning_153 : decode cX13_beginning 153 = .ok (.iload_n 2, 1) := by decide +kernel
theorem dX13_beginning_154 : decode cX13_beginning 154 = .ok (.bipush 21, 2) := by decide +kernel
theorem dX13_beginning_156 : decode cX13_beginning 156 = .ok (.if_icmp .ne 24, 3) := by decide +kernel
theorem dX13_beginning_159 : decode cX13_beginning 159 = .ok (.iload 4, 2) := by decide +kernel
theorem dX13_beginning_161 : decode cX13_beginning 161 = .ok (.aload_n 0, 1) := by decide +kernel
theorem dX13_beginning_162 : decode cX13_beginning 162 = .ok (.aload_n 0, 1) := by decide +kernel
theorem dX13_beginning_163 : decode cX13_beginning 163 = .ok (.getfield 41, 3) := by decide +kernel
theorem dX13_beginning_166 : decode cX13_beginning 166 = .ok (.aload_n 0, 1) := by decide +kernel
theorem dX13_beginning_167 : decode cX13_beginning 167 = .ok (.iload_n 1, 1) := by decide +kernel
theorem dX13_beginning_168 : decode cX13_beginning 168 = .ok (.iconst 1, 1) := by decide +kernel
theorem dX13_beginning_169 : decode cX13_beginning 169 = .ok (.invokevirtual 381, 3) := by decide +kernel
theorem dX13_beginning_172 : decode cX13_beginning 172 = .ok (.invokevirtual 410, 3) := by decide +kernel
theorem dX13_beginning_175 : decode cX13_beginning 175 = .ok (.invokestatic 178, 3) := by decide +kernel
theorem dX13_beginning_178 : decode cX13_beginning 178 = .ok (.istore 4, 2) := by decide +kernel
theorem dX13_beginning_180 : decode cX13_beginning 180 = .ok (.iload 4, 2) := by decide +kernel
theorem dX13_beginning_182 : decode cX13_beginning 182 = .ok (.ireturn, 1) := by decide +kernel
def pX13_beginning_b153 (g : MT) (h : CT) (this : Nat) (p1 : Int32) (l2 : Int32) (l4 : Int32) : Option Int32 := if l2 = 21 then lt (hR h this 24) fun r2 => (bd (pX13_at g h this p1 1) fun x3 => (nn r2 fun a2 => (bd (pX13_rowTime g h this a2 x3) fun x5 => (lt (pJ9_max_7cf53 l4 x5) fun x7 => (some x7))))) else some l4
set_option maxRecDepth 10000 in
set_option maxHeartbeats 4000000 in
theorem pX13_beginning_b153_ok {X : Cx} {G : Gx} {dk : Nat} {g : MT} {r0 : Int32} {h : CT} {this : Nat} {p1 : Int32} (Z : Zx X G cX13_beginning RX13 6 dk (some .int) (some (.int r0)) g h) (hK : 3 ≤ dk) (t0 : gT g this = 12) (l2 : Int32) (l4 : Int32) (hf : pX13_beginning_b153 g h this p1 l2 l4 = some r0) : J X g h 153 [(0, va_rf (some this)), (1, .int p1), (2, .int l2), (4, .int l4)] [] := by
  unfold pX13_beginning_b153 at hf
  refine J_iload_n Z.1 2 dX13_beginning_153 rfl rfl ?_
  refine J_bipush Z.1 (v := 21) (by decide) dX13_beginning_154 ?_
  refine J_icmp_ne Z.1 180 dX13_beginning_156 (by decide) (fun c1 => ?_) (fun c1 => ?_)
  · rw [if_neg c1] at hf
    refine J_iload Z.1 3 dX13_beginning_180 rfl ?_
    cases hf
    exact J_iret Z.1 Z.2.2.2.2.2 dX13_beginning_182
  · rw [if_pos c1] at hf
    refine J_iload Z.1 3 dX13_beginning_159 rfl ?_
    refine J_aload_n Z.1 0 dX13_beginning_161 rfl rfl ?_
    refine J_aload_n Z.1 0 dX13_beginning_162 rfl rfl ?_
    refine J_get (v := va_rf (hR h this 24)) Z.1 dX13_beginning_163 fl_X13_41 t0 rfl ?_
    refine J_tr (fun r2 er2 => ?_)
    replace hf := lt_i hf r2 er2
    refine J_aload_n Z.1 0 dX13_beginning_166 rfl rfl ?_
    refine J_iload_n Z.1 1 dX13_beginning_167 rfl rfl ?_
    refine J_iconst Z.1 (v := 1) (by decide) dX13_beginning_168 ?_
    replace hf := bd_i hf
    obtain ⟨x3, q4, hf⟩ := hf
    refine J_callV (ci := 11) (as := [.int p1, .int 1]) (rest := [va_rf r2, va_rf (some this), .int l4]) (sy := [.int x3, va_rf r2, va_rf (some this), .int l4]) Z.1 dX13_beginning_169 cw_X13_381 (pX13_at_ok G (dk - 1) (by omega) q4) rfl rfl t0 (zG Z) rfl (by simp [cat_i, cat_l, cat_d, cat_rf]) (zF Z (by omega)) (zO Z (by omega) (by decide)) (zM _) Z.2.1 Z.2.1 rfl rfl ?_
    replace hf := nn_i hf
    obtain ⟨a2, rfl, hf⟩ := hf
    replace hf := bd_i hf
    obtain ⟨x5, q6, hf⟩ := hf
    refine J_callV (ci := 11) (as := [va_rf (some a2), .int x3]) (rest := [.int l4]) (sy := [.int x5, .int l4]) Z.1 dX13_beginning_172 cw_X13_410 (pX13_rowTime_ok G (dk - 1) (by omega) q6) rfl rfl t0 (zG Z) rfl (by simp [cat_i, cat_l, cat_d, cat_rf]) (zF Z (by omega)) (zO Z (by omega) (by decide)) (zM _) Z.2.1 Z.2.1 rfl rfl ?_
    refine J_callS (as := [.int l4, .int x5]) (rest := []) (sy := [.int (pJ9_max_7cf53 l4 x5)]) Z.1 dX13_beginning_175 cw_X13_178 (pJ9_max_7cf53_ok G (dk - 1) (by omega) g h l4 x5) (zG Z) rfl (by decide) (zF Z (by omega)) (zO Z (by omega) (by decide)) (zM _) Z.2.1 Z.2.1 rfl rfl ?_
    refine J_ti (fun x7 ex7 => ?_)
    replace hf := lt_i hf x7 ex7
    refine J_istore Z.1 (lv2 := [(4, .int x7), (0, va_rf (some this)), (1, .int p1), (2, .int l2)]) dX13_beginning_178 (zL Z (by decide)) rfl ?_
    refine J_iload Z.1 0 dX13_beginning_180 rfl ?_
    cases hf
    exact J_iret Z.1 Z.2.2.2.2.2 dX13_beginning_182
def pX13_beginning_b132 (g : MT) (h : CT) (this : Nat) (p1 : Int32) (l2 : Int32) (l4 : Int32) : Option Int32 := lt (hR h this 23) fun r1 => (bd (pX13_at g h this p1 1) fun x2 => (nn r1 fun a1 => (bd (pX13_rowTime g h this a1 x2) fun x4 => (lt (pJ9_max_7cf53 l4 x4) fun x6 => (pX13_beginning_b153 g h this p1  l2 x6)))))
set_option maxRecDepth 10000 in
set_option maxHeartbeats 4000000 in
theorem pX13_beginning_b132_ok {X : Cx} {G : Gx} {dk : Nat} {g : MT} {r0 : Int32} {h : CT} {this : Nat} {p1 : Int32} (Z : Zx X G cX13_beginning RX13 6 dk (some .int) (some (.int r0)) g h) (hK : 3 ≤ dk) (t0 : gT g this = 12) (l2 : Int32) (l4 : Int32) (hf : pX13_beginning_b132 g h this p1 l2 l4 = some r0) : J X g h 132 [(0, va_rf (some this)), (1, .int p1), (2, .int l2), (4, .int l4)] [] := by
  unfold pX13_beginning_b132 at hf
  refine J_iload Z.1 3 dX13_beginning_132 rfl ?_
  refine J_aload_n Z.1 0 dX13_beginning_134 rfl rfl ?_
  refine J_aload_n Z.1 0 dX13_beginning_135 rfl rfl ?_
  refine J_get (v := va_rf (hR h this 23)) Z.1 dX13_beginning_136 fl_X13_38 t0 rfl ?_
  refine J_tr (fun r1 er1 => ?_)
  replace hf := lt_i hf r1 er1
  refine J_aload_n Z.1 0 dX13_beginning_139 rfl rfl ?_
  refine J_iload_n Z.1 1 dX13_beginning_140 rfl rfl ?_
  refine J_iconst Z.1 (v := 1) (by decide) dX13_beginning_141 ?_
  replace hf := bd_i hf
  obtain ⟨x2, q3, hf⟩ := hf
  refine J_callV (ci := 11) (as := [.int p1, .int 1]) (rest := [va_rf r1, va_rf (some this), .int l4]) (sy := [.int x2, va_rf r1, va_rf (some this), .int l4]) Z.1 dX13_beginning_142 cw_X13_381 (pX13_at_ok G (dk - 1) (by omega) q3) rfl rfl t0 (zG Z) rfl (by simp [cat_i, cat_l, cat_d, cat_rf]) (zF Z (by omega)) (zO Z (by omega) (by decide)) (zM _) Z.2.1 Z.2.1 rfl rfl ?_
  replace hf := nn_i hf
  obtain ⟨a1, rfl, hf⟩ := hf
  replace hf := bd_i hf
  obtain ⟨x4, q5, hf⟩ := hf
  refine J_callV (ci := 11) (as := [va_rf (some a1), .int x2]) (rest := [.int l4]) (sy := [.int x4, .int l4]) Z.1 dX13_beginning_145 cw_X13_410 (pX13_rowTime_ok G (dk - 1) (by omega) q5) rfl rfl t0 (zG Z) rfl (by simp [cat_i, cat_l, cat_d, cat_rf]) (zF Z (by omega)) (zO Z (by omega) (by decide)) (zM _) Z.2.1 Z.2.1 rfl rfl ?_
  refine J_callS (as := [.int l4, .int x4]) (rest := []) (sy := [.int (pJ9_max_7cf53 l4 x4)]) Z.1 dX13_beginning_148 cw_X13_178 (pJ9_max_7cf53_ok G (dk - 1) (by omega) g h l4 x4) (zG Z) rfl (by decide) (zF Z (by omega)) (zO Z (by omega) (by decide)) (zM _) Z.2.1 Z.2.1 rfl rfl ?_
  refine J_ti (fun x6 ex6 => ?_)
  replace hf := lt_i hf x6 ex6
  refine J_istore Z.1 (lv2 := [(4, .int x6), (0, va_rf (some this)), (1, .int p1), (2, .int l2)]) dX13_beginning_151 (zL Z (by decide)) rfl ?_
  refine J_lv [1, 2, 3, 0] rfl ?_
  exact pX13_beginning_b153_ok Z hK t0  _ _ hf
def pX13_beginning_b119 (g : MT) (h : CT) (this : Nat) (p1 : Int32) (l2 : Int32) (l4 : Int32) : Option Int32 := if l2 = 21 then pX13_beginning_b132 g h this p1  l2 l4 else if (pX13_isFolded l2) = 0 then pX13_beginning_b153 g h this p1  l2 l4 else pX13_beginning_b132 g h this p1  l2 l4
set_option maxRecDepth 10000 in
set_option maxHeartbeats 4000000 in
theorem pX13_beginning_b119_ok {X : Cx} {G : Gx} {dk : Nat} {g : MT} {r0 : Int32} {h : CT} {this : Nat} {p1 : Int32} (Z : Zx X G cX13_beginning RX13 6 dk (some .int) (some (.int r0)) g h) (hK : 3 ≤ dk) (t0 : gT g this = 12) (l2 : Int32) (l4 : Int32) (hf : pX13_beginning_b119 g h this p1 l2 l4 = some r0) : J X g h 119 [(0, va_rf (some this)), (1, .int p1), (2, .int l2), (4, .int l4)] [] := by
  unfold pX13_beginning_b119 at hf
  refine J_iload_n Z.1 2 dX13_beginning_119 rfl rfl ?_
  refine J_bipush Z.1 (v := 21) (by decide) dX13_beginning_120 ?_
  refine J_icmp_eq Z.1 132 dX13_beginning_122 (by decide) (fun c1 => ?_) (fun c1 => ?_)
  · rw [if_pos c1] at hf
    exact pX13_beginning_b132_ok Z hK t0  _ _ hf
  · rw [if_neg c1] at hf
    refine J_iload_n Z.1 2 dX13_beginning_125 rfl rfl ?_
    refine J_callS (as := [.int l2]) (rest := []) (sy := [.int (pX13_isFolded l2)]) Z.1 dX13_beginning_126 cw_X13_357 (pX13_isFolded_ok G (dk - 1) (by omega) g h l2) (zG Z) rfl (by decide) (zF Z (by omega)) (zO Z (by omega) (by decide)) (zM _) Z.2.1 Z.2.1 rfl rfl ?_
    refine J_if_eq Z.1 153 dX13_beginning_129 (by decide) (fun c2 => ?_) (fun c2 => ?_)
    · rw [if_pos c2] at hf
      exact pX13_beginning_b153_ok Z hK t0  _ _ hf
    · rw [if_neg c2] at hf
      exact pX13_beginning_b132_ok Z hK t0  _ _ hf
def pX13_beginning_b103 (g : MT) (h : CT) (this : Nat) (p1 : Int32) (l2 : Int32) (l4 : Int32) (l5 : Int32) : Option Int32 := if l5 = 0 then pX13_beginning_b119 g h this p1  l2 l4 else lt (pJ9_max_7cf53 l4 (hI h this 30)) fun x2 => (pX13_beginning_b119 g h this p1  l2 x2)
set_option maxRecDepth 10000 in
set_option maxHeartbeats 4000000 in
theorem pX13_beginning_b103_ok {X : Cx} {G : Gx} {dk : Nat} {g : MT} {r0 : Int32} {h : CT} {this : Nat} {p1 : Int32} (Z : Zx X G cX13_beginning RX13 6 dk (some .int) (some (.int r0)) g h) (hK : 3 ≤ dk) (t0 : gT g this = 12) (l2 : Int32) (l4 : Int32) (l5 : Int32) (hf : pX13_beginning_b103 g h this p1 l2 l4 l5 = some r0) : J X g h 103 [(0, va_rf (some this)), (1, .int p1), (2, .int l2), (4, .int l4), (5, .int l5)] [] := by
  unfold pX13_beginning_b103 at hf
  refine J_iload Z.1 4 dX13_beginning_103 rfl ?_
  refine J_if_eq Z.1 119 dX13_beginning_105 (by decide) (fun c1 => ?_) (fun c1 => ?_)
  · rw [if_pos c1] at hf
    refine J_lv [0, 1, 2, 3] rfl ?_
    exact pX13_beginning_b119_ok Z hK t0  _ _ hf
  · rw [if_neg c1] at hf
    refine J_iload Z.1 3 dX13_beginning_108 rfl ?_
    refine J_aload_n Z.1 0 dX13_beginning_110 rfl rfl ?_
    refine J_get (v := .int (hI h this 30)) Z.1 dX13_beginning_111 fl_X13_407 t0 rfl ?_
    refine J_callS (as := [.int l4, .int (hI h this 30)]) (rest := []) (sy := [.int (pJ9_max_7cf53 l4 (hI h this 30))]) Z.1 dX13_beginning_114 cw_X13_178 (pJ9_max_7cf53_ok G (dk - 1) (by omega) g h l4 (hI h this 30)) (zG Z) rfl (by decide) (zF Z (by omega)) (zO Z (by omega) (by decide)) (zM _) Z.2.1 Z.2.1 rfl rfl ?_
    refine J_ti (fun x2 ex2 => ?_)
    replace hf := lt_i hf x2 ex2
    refine J_istore Z.1 (lv2 := [(4, .int x2), (0, va_rf (some this)), (1, .int p1), (2, .int l2), (5, .int l5)]) dX13_beginning_117 (zL Z (by decide)) rfl ?_
    refine J_lv [1, 2, 3, 0] rfl ?_
    exact pX13_beginning_b119_ok Z hK t0  _ _ hf
def pX13_beginning_b92 (g : MT) (h : CT) (this : Nat) (p1 : Int32) (l2 : Int32) (l4 : Int32) (l5 : Int32) : Option Int32 := lt (pJ9_max_7cf53 l4 (hI h this 29)) fun x1 => (pX13_beginning_b103 g h this p1  l2 x1 l5)
set_option maxRecDepth 10000 in
set_option maxHeartbeats 4000000 in
theorem pX13_beginning_b92_ok {X : Cx} {G : Gx} {dk : Nat} {g : MT} {r0 : Int32} {h : CT} {this : Nat} {p1 : Int32} (Z : Zx X G cX13_beginning RX13 6 dk (some .int) (some (.int r0)) g h) (hK : 3 ≤ dk) (t0 : gT g this = 12) (l2 : Int32) (l4 : Int32) (l5 : Int32) (hf : pX13_beginning_b92 g h this p1 l2 l4 l5 = some r0) : J X g h 92 [(0, va_rf (some this)), (1, .int p1), (2, .int l2), (4, .int l4), (5, .int l5)] [] := by
  unfold pX13_beginning_b92 at hf
  refine J_iload Z.1 3 dX13_beginning_92 rfl ?_
  refine J_aload_n Z.1 0 dX13_beginning_94 rfl rfl ?_
  refine J_get (v := .int (hI h this 29)) Z.1 dX13_beginning_95 fl_X13_404 t0 rfl ?_
  refine J_callS (as := [.int l4, .int (hI h this 29)]) (rest := []) (sy := [.int (pJ9_max_7cf53 l4 (hI h this 29))]) Z.1 dX13_beginning_98 cw_X13_178 (pJ9_max_7cf53_ok G (dk - 1) (by omega) g h l4 (hI h this 29)) (zG Z) rfl (by decide) (zF Z (by omega)) (zO Z (by omega) (by decide)) (zM _) Z.2.1 Z.2.1 rfl rfl ?_
  refine J_ti (fun x1 ex1 => ?_)
  replace hf := lt_i hf x1 ex1
  refine J_istore Z.1 (lv2 := [(4, .int x1), (0, va_rf (some this)), (1, .int p1), (2, .int l2), (5, .int l5)]) dX13_beginning_101 (zL Z (by decide)) rfl ?_
  refine J_lv [1, 2, 3, 0, 4] rfl ?_
  exact pX13_beginning_b103_ok Z hK t0  _ _ _ hf
def pX13_beginning_b62 (g : MT) (h : CT) (this : Nat) (p1 : Int32) (l2 : Int32) (l4 : Int32) (s0 : Int32) : Option Int32 := if s0 = 0 then if l2 = 21 then pX13_beginning_b92 g h this p1  l2 l4 s0 else if l2 = 22 then pX13_beginning_b92 g h this p1  l2 l4 s0 else bd (pX13_at g h this p1 6) fun x4 => (if x4 = 1 then pX13_beginning_b92 g h this p1  l2 l4 s0 else pX13_beginning_b103 g h this p1  l2 l4 s0) else pX13_beginning_b92 g h this p1  l2 l4 s0
set_option maxRecDepth 10000 in
set_option maxHeartbeats 4000000 in
theorem pX13_beginning_b62_ok {X : Cx} {G : Gx} {dk : Nat} {g : MT} {r0 : Int32} {h : CT} {this : Nat} {p1 : Int32} (Z : Zx X G cX13_beginning RX13 6 dk (some .int) (some (.int r0)) g h) (hK : 3 ≤ dk) (t0 : gT g this = 12) (l2 : Int32) (l4 : Int32) (s0 : Int32) (hf : pX13_beginning_b62 g h this p1 l2 l4 s0 = some r0) : J X g h 62 [(0, va_rf (some this)), (1, .int p1), (2, .int l2), (4, .int l4)] [.int s0] := by
  unfold pX13_beginning_b62 at hf
  refine J_istore Z.1 (lv2 := [(5, .int s0), (0, va_rf (some this)), (1, .int p1), (2, .int l2), (4, .int l4)]) dX13_beginning_62 (zL Z (by decide)) rfl ?_
  refine J_iload Z.1 0 dX13_beginning_64 rfl ?_
  refine J_if_ne Z.1 92 dX13_beginning_66 (by decide) (fun c1 => ?_) (fun c1 => ?_)
  · rw [if_neg c1] at hf
    refine J_lv [1, 2, 3, 4, 0] rfl ?_
    exact pX13_beginning_b92_ok Z hK t0  _ _ _ hf
  · rw [if_pos c1] at hf
    refine J_iload_n Z.1 3 dX13_beginning_69 rfl rfl ?_
    refine J_bipush Z.1 (v := 21) (by decide) dX13_beginning_70 ?_
    refine J_icmp_eq Z.1 92 dX13_beginning_72 (by decide) (fun c2 => ?_) (fun c2 => ?_)
    · rw [if_pos c2] at hf
      refine J_lv [1, 2, 3, 4, 0] rfl ?_
      exact pX13_beginning_b92_ok Z hK t0  _ _ _ hf
    · rw [if_neg c2] at hf
      refine J_iload_n Z.1 3 dX13_beginning_75 rfl rfl ?_
      refine J_bipush Z.1 (v := 22) (by decide) dX13_beginning_76 ?_
      refine J_icmp_eq Z.1 92 dX13_beginning_78 (by decide) (fun c3 => ?_) (fun c3 => ?_)
      · rw [if_pos c3] at hf
        refine J_lv [1, 2, 3, 4, 0] rfl ?_
        exact pX13_beginning_b92_ok Z hK t0  _ _ _ hf
      · rw [if_neg c3] at hf
        refine J_aload_n Z.1 1 dX13_beginning_81 rfl rfl ?_
        refine J_iload_n Z.1 2 dX13_beginning_82 rfl rfl ?_
        refine J_bipush Z.1 (v := 6) (by decide) dX13_beginning_83 ?_
        replace hf := bd_i hf
        obtain ⟨x4, q5, hf⟩ := hf
        refine J_callV (ci := 11) (as := [.int p1, .int 6]) (rest := []) (sy := [.int x4]) Z.1 dX13_beginning_85 cw_X13_381 (pX13_at_ok G (dk - 1) (by omega) q5) rfl rfl t0 (zG Z) rfl (by decide) (zF Z (by omega)) (zO Z (by omega) (by decide)) (zM _) Z.2.1 Z.2.1 rfl rfl ?_
        refine J_iconst Z.1 (v := 1) (by decide) dX13_beginning_88 ?_
        refine J_icmp_ne Z.1 103 dX13_beginning_89 (by decide) (fun c6 => ?_) (fun c6 => ?_)
        · rw [if_neg c6] at hf
          refine J_lv [1, 2, 3, 4, 0] rfl ?_
          exact pX13_beginning_b103_ok Z hK t0  _ _ _ hf
        · rw [if_pos c6] at hf
          refine J_lv [1, 2, 3, 4, 0] rfl ?_
          exact pX13_beginning_b92_ok Z hK t0  _ _ _ hf
def pX13_beginning_b57 (g : MT) (h : CT) (this : Nat) (p1 : Int32) (l2 : Int32) (l4 : Int32) : Option Int32 := pX13_beginning_b62 g h this p1  l2 l4 1
set_option maxRecDepth 10000 in
set_option maxHeartbeats 4000000 in
theorem pX13_beginning_b57_ok {X : Cx} {G : Gx} {dk : Nat} {g : MT} {r0 : Int32} {h : CT} {this : Nat} {p1 : Int32} (Z : Zx X G cX13_beginning RX13 6 dk (some .int) (some (.int r0)) g h) (hK : 3 ≤ dk) (t0 : gT g this = 12) (l2 : Int32) (l4 : Int32) (hf : pX13_beginning_b57 g h this p1 l2 l4 = some r0) : J X g h 57 [(0, va_rf (some this)), (1, .int p1), (2, .int l2), (4, .int l4)] [] := by
  unfold pX13_beginning_b57 at hf
  refine J_iconst Z.1 (v := 1) (by decide) dX13_beginning_57 ?_
  refine J_goto Z.1 62 dX13_beginning_58 (by decide) ?_
  exact pX13_beginning_b62_ok Z hK t0  _ _ _ hf
def pX13_beginning_b44 (g : MT) (h : CT) (this : Nat) (p1 : Int32) (l2 : Int32) (l4 : Int32) : Option Int32 := if (pX13_isCompared l2) = 0 then if l2 = 20 then pX13_beginning_b57 g h this p1  l2 l4 else pX13_beginning_b62 g h this p1  l2 l4 0 else pX13_beginning_b57 g h this p1  l2 l4
set_option maxRecDepth 10000 in
set_option maxHeartbeats 4000000 in
theorem pX13_beginning_b44_ok {X : Cx} {G : Gx} {dk : Nat} {g : MT} {r0 : Int32} {h : CT} {this : Nat} {p1 : Int32} (Z : Zx X G cX13_beginning RX13 6 dk (some .int) (some (.int r0)) g h) (hK : 3 ≤ dk) (t0 : gT g this = 12) (l2 : Int32) (l4 : Int32) (hf : pX13_beginning_b44 g h this p1 l2 l4 = some r0) : J X g h 44 [(0, va_rf (some this)), (1, .int p1), (2, .int l2), (4, .int l4)] [] := by
  unfold pX13_beginning_b44 at hf
  refine J_iload_n Z.1 2 dX13_beginning_44 rfl rfl ?_
  refine J_callS (as := [.int l2]) (rest := []) (sy := [.int (pX13_isCompared l2)]) Z.1 dX13_beginning_45 cw_X13_354 (pX13_isCompared_ok G (dk - 1) (by omega) g h l2) (zG Z) rfl (by decide) (zF Z (by omega)) (zO Z (by omega) (by decide)) (zM _) Z.2.1 Z.2.1 rfl rfl ?_
  refine J_if_ne Z.1 57 dX13_beginning_48 (by decide) (fun c1 => ?_) (fun c1 => ?_)
  · rw [if_neg c1] at hf
    exact pX13_beginning_b57_ok Z hK t0  _ _ hf
  · rw [if_pos c1] at hf
    refine J_iload_n Z.1 2 dX13_beginning_51 rfl rfl ?_
    refine J_bipush Z.1 (v := 20) (by decide) dX13_beginning_52 ?_
    refine J_icmp_ne Z.1 61 dX13_beginning_54 (by decide) (fun c2 => ?_) (fun c2 => ?_)
    · rw [if_neg c2] at hf
      refine J_iconst Z.1 (v := 0) (by decide) dX13_beginning_61 ?_
      exact pX13_beginning_b62_ok Z hK t0  _ _ _ hf
    · rw [if_pos c2] at hf
      exact pX13_beginning_b57_ok Z hK t0  _ _ hf
def pX13_beginning (g : MT) (h : CT) (this : Nat) (p1 : Int32) : Option Int32 := tg g this 12 (bd (pX13_at g h this p1 0) fun x1 => (lt (pX13_unitOf x1) fun x3 => (lt (pJ9_max_7cf53 ((hI h this 32) + 1) (hI h this 31)) fun x4 => (if x3 < 0 then pX13_beginning_b44 g h this p1  x1 x4 else lt (hR h this 25) fun r6 => (nn r6 fun a6 => (tg g a6 20 (ix (gL g a6) x3 (lt (pJ9_max_7cf53 x4 (hI h a6 (Int32.toNatClampNeg x3))) fun x9 => (pX13_beginning_b44 g h this p1  x1 x9)))))))))
set_option maxRecDepth 10000 in
set_option maxHeartbeats 4000000 in
theorem pX13_beginning_ok (G : Gx) (dk : Nat) (hK : 3 ≤ dk) {g : MT} {h : CT} {this : Nat} {p1 : Int32} {r0 : Int32} (hf : pX13_beginning g h this p1 = some r0) : Ctr G dk yX13_beginning cX13_beginning 6 (some .int) [va_rf (some this), .int p1] g h (some (.int r0)) g h := by
  refine Ctr.ofZ (lv := [(0, va_rf (some this)), (1, .int p1)]) (by decide +kernel) (by simp [cat_i, cat_l, cat_d, cat_rf]) rfl fun X Z => ?_
  unfold pX13_beginning at hf
  replace hf := tg_i hf
  obtain ⟨t0, hf⟩ := hf
  refine J_aload_n Z.1 0 dX13_beginning_0 rfl rfl ?_
  refine J_iload_n Z.1 1 dX13_beginning_1 rfl rfl ?_
  refine J_iconst Z.1 (v := 0) (by decide) dX13_beginning_2 ?_
  replace hf := bd_i hf
  obtain ⟨x1, q2, hf⟩ := hf
  refine J_callV (ci := 11) (as := [.int p1, .int 0]) (rest := []) (sy := [.int x1]) Z.1 dX13_beginning_3 cw_X13_381 (pX13_at_ok G (dk - 1) (by omega) q2) rfl rfl t0 (zG Z) rfl (by decide) (zF Z (by omega)) (zO Z (by omega) (by decide)) (zM _) Z.2.1 Z.2.1 rfl rfl ?_
  refine J_istore_n Z.1 (lv2 := [(2, .int x1), (0, va_rf (some this)), (1, .int p1)]) dX13_beginning_6 rfl (zL Z (by decide)) rfl ?_
  refine J_iload_n Z.1 0 dX13_beginning_7 rfl rfl ?_
  refine J_callS (as := [.int x1]) (rest := []) (sy := [.int (pX13_unitOf x1)]) Z.1 dX13_beginning_8 cw_X13_395 (pX13_unitOf_ok G (dk - 1) (by omega) g h x1) (zG Z) rfl (by decide) (zF Z (by omega)) (zO Z (by omega) (by decide)) (zM _) Z.2.1 Z.2.1 rfl rfl ?_
  refine J_ti (fun x3 ex3 => ?_)
  replace hf := lt_i hf x3 ex3
  refine J_istore_n Z.1 (lv2 := [(3, .int x3), (2, .int x1), (0, va_rf (some this)), (1, .int p1)]) dX13_beginning_11 rfl (zL Z (by decide)) rfl ?_
  refine J_aload_n Z.1 2 dX13_beginning_12 rfl rfl ?_
  refine J_get (v := .int (hI h this 32)) Z.1 dX13_beginning_13 fl_X13_398 t0 rfl ?_
  refine J_iconst Z.1 (v := 1) (by decide) dX13_beginning_16 ?_
  refine J_iadd Z.1 dX13_beginning_17 ?_
  refine J_aload_n Z.1 2 dX13_beginning_18 rfl rfl ?_
  refine J_get (v := .int (hI h this 31)) Z.1 dX13_beginning_19 fl_X13_401 t0 rfl ?_
  refine J_callS (as := [.int ((hI h this 32) + 1), .int (hI h this 31)]) (rest := []) (sy := [.int (pJ9_max_7cf53 ((hI h this 32) + 1) (hI h this 31))]) Z.1 dX13_beginning_22 cw_X13_178 (pJ9_max_7cf53_ok G (dk - 1) (by omega) g h ((hI h this 32) + 1) (hI h this 31)) (zG Z) rfl (by decide) (zF Z (by omega)) (zO Z (by omega) (by decide)) (zM _) Z.2.1 Z.2.1 rfl rfl ?_
  refine J_ti (fun x4 ex4 => ?_)
  replace hf := lt_i hf x4 ex4
  refine J_istore Z.1 (lv2 := [(4, .int x4), (3, .int x3), (2, .int x1), (0, va_rf (some this)), (1, .int p1)]) dX13_beginning_25 (zL Z (by decide)) rfl ?_
  refine J_iload_n Z.1 1 dX13_beginning_27 rfl rfl ?_
  refine J_if_lt Z.1 44 dX13_beginning_28 (by decide) (fun c5 => ?_) (fun c5 => ?_)
  · rw [if_pos c5] at hf
    refine J_lv [3, 4, 2, 0] rfl ?_
    exact pX13_beginning_b44_ok Z hK t0  _ _ hf
  · rw [if_neg c5] at hf
    refine J_iload Z.1 0 dX13_beginning_31 rfl ?_
    refine J_aload_n Z.1 3 dX13_beginning_33 rfl rfl ?_
    refine J_get (v := va_rf (hR h this 25)) Z.1 dX13_beginning_34 fl_X13_44 t0 rfl ?_
    refine J_tr (fun r6 er6 => ?_)
    replace hf := lt_i hf r6 er6
    refine J_iload_n Z.1 1 dX13_beginning_37 rfl rfl ?_
    replace hf := nn_i hf
    obtain ⟨a6, rfl, hf⟩ := hf
    replace hf := tg_i hf
    obtain ⟨t7, hf⟩ := hf
    replace hf := ix_i hf
    obtain ⟨i8, hf⟩ := hf
    refine J_iaload Z.1 dX13_beginning_38 t7 i8 ?_
    refine J_callS (as := [.int x4, .int (hI h a6 (Int32.toNatClampNeg x3))]) (rest := []) (sy := [.int (pJ9_max_7cf53 x4 (hI h a6 (Int32.toNatClampNeg x3)))]) Z.1 dX13_beginning_39 cw_X13_178 (pJ9_max_7cf53_ok G (dk - 1) (by omega) g h x4 (hI h a6 (Int32.toNatClampNeg x3))) (zG Z) rfl (by decide) (zF Z (by omega)) (zO Z (by omega) (by decide)) (zM _) Z.2.1 Z.2.1 rfl rfl ?_
    refine J_ti (fun x9 ex9 => ?_)
    replace hf := lt_i hf x9 ex9
    refine J_istore Z.1 (lv2 := [(4, .int x9), (3, .int x3), (2, .int x1), (0, va_rf (some this)), (1, .int p1)]) dX13_beginning_42 (zL Z (by decide)) rfl ?_
    refine J_lv [3, 4, 2, 0] rfl ?_
    exact pX13_beginning_b44_ok Z hK t0  _ _ hf
theorem dX13_isIndex_0 : decode cX13_isIndex 0 = .ok (.dload_n 0, 1) := by decide +kernel
theorem dX13_isIndex_1 : decode cX13_isIndex 1 = .ok (.ldc2_w 414, 3) := by decide +kernel
theorem dX13_isIndex_4 : decode cX13_isIndex 4 = .ok (.dcmp .l, 1) := by decide +kernel
theorem dX13_isIndex_5 : decode cX13_isIndex 5 = .ok (.ifCond .lt 23, 3) := by decide +kernel
theorem dX13_isIndex_8 : decode cX13_isIndex 8 = .ok (.dload_n 0, 1) := by decide +kernel
theorem dX13_isIndex_9 : decode cX13_isIndex 9 = .ok (.ldc2_w 416, 3) := by decide +kernel
theorem dX13_isIndex_12 : decode cX13_isIndex 12 = .ok (.dcmp .g, 1) := by decide +kernel
theorem dX13_isIndex_13 : decode cX13_isIndex 13 = .ok (.ifCond .gt 15, 3) := by decide +kernel
theorem dX13_isIndex_16 : decode cX13_isIndex 16 = .ok (.dload_n 0, 1) := by decide +kernel
theorem dX13_isIndex_17 : decode cX13_isIndex 17 = .ok (.d2l, 1) := by decide +kernel
theorem dX13_isIndex_18 : decode cX13_isIndex 18 = .ok (.l2d, 1) := by decide +kernel
theorem dX13_isIndex_19 : decode cX13_isIndex 19 = .ok (.dload_n 0, 1) := by decide +kernel
theorem dX13_isIndex_20 : decode cX13_isIndex 20 = .ok (.dcmp .l, 1) := by decide +kernel
theorem dX13_isIndex_21 : decode cX13_isIndex 21 = .ok (.ifCond .ne 7, 3) := by decide +kernel
theorem dX13_isIndex_24 : decode cX13_isIndex 24 = .ok (.iconst 1, 1) := by decide +kernel
theorem dX13_isIndex_25 : decode cX13_isIndex 25 = .ok (.goto 4, 3) := by decide +kernel
theorem dX13_isIndex_28 : decode cX13_isIndex 28 = .ok (.iconst 0, 1) := by decide +kernel
theorem dX13_isIndex_29 : decode cX13_isIndex 29 = .ok (.ireturn, 1) := by decide +kernel
def pX13_isIndex (p0 : UInt64) : Int32 := if (Op.cmpValue (FP.dcmp p0 13920209183539462144) .l) < 0 then 0 else if 0 < (Op.cmpValue (FP.dcmp p0 4696837146684686336) .g) then 0 else if (Op.cmpValue (FP.dcmp (fl2d (FP.d2l p0)) p0) .l) = 0 then 1 else 0
set_option maxRecDepth 10000 in
set_option maxHeartbeats 4000000 in
theorem pX13_isIndex_ok (G : Gx) (dk : Nat) (hK : 0 ≤ dk) (g : MT) (h0 : CT) (p0 : UInt64) : Ctr G dk yX13_isIndex cX13_isIndex 2 (some .boolean) [.double p0] g h0 (some (.int (pX13_isIndex p0))) g h0 := by
  obtain ⟨r0, hf⟩ : ∃ z, pX13_isIndex p0 = z := ⟨_, rfl⟩
  rw [hf]
  refine Ctr.ofZ (lv := [(0, .double p0)]) (by decide +kernel) (by simp [cat_i, cat_l, cat_d, cat_rf]) rfl fun X Z => ?_
  unfold pX13_isIndex at hf
  refine J_dload_n Z.1 0 dX13_isIndex_0 rfl rfl ?_
  refine J_ldc2d Z.1 q_1959 (by decide +kernel) dX13_isIndex_1 ?_
  refine J_dcmp Z.1 dX13_isIndex_4 ?_
  refine J_if_lt Z.1 28 dX13_isIndex_5 (by decide) (fun c1 => ?_) (fun c1 => ?_)
  · rw [if_pos c1] at hf
    refine J_iconst Z.1 (v := 0) (by decide) dX13_isIndex_28 ?_
    cases hf
    exact J_zret Z.1 Z.2.2.2.2.2 (z_n (Or.inl rfl)) dX13_isIndex_29
  · rw [if_neg c1] at hf
    refine J_dload_n Z.1 0 dX13_isIndex_8 rfl rfl ?_
    refine J_ldc2d Z.1 q_1960 (by decide +kernel) dX13_isIndex_9 ?_
    refine J_dcmp Z.1 dX13_isIndex_12 ?_
    refine J_if_gt Z.1 28 dX13_isIndex_13 (by decide) (fun c2 => ?_) (fun c2 => ?_)
    · rw [if_pos c2] at hf
      refine J_iconst Z.1 (v := 0) (by decide) dX13_isIndex_28 ?_
      cases hf
      exact J_zret Z.1 Z.2.2.2.2.2 (z_n (Or.inl rfl)) dX13_isIndex_29
    · rw [if_neg c2] at hf
      refine J_dload_n Z.1 0 dX13_isIndex_16 rfl rfl ?_
      refine J_d2l Z.1 dX13_isIndex_17 ?_
      refine J_l2d Z.1 dX13_isIndex_18 ?_
      refine J_dload_n Z.1 0 dX13_isIndex_19 rfl rfl ?_
      refine J_dcmp Z.1 dX13_isIndex_20 ?_
      refine J_if_ne Z.1 28 dX13_isIndex_21 (by decide) (fun c3 => ?_) (fun c3 => ?_)
      · rw [if_neg c3] at hf
        refine J_iconst Z.1 (v := 0) (by decide) dX13_isIndex_28 ?_
        cases hf
        exact J_zret Z.1 Z.2.2.2.2.2 (z_n (Or.inl rfl)) dX13_isIndex_29
      · rw [if_pos c3] at hf
        refine J_iconst Z.1 (v := 1) (by decide) dX13_isIndex_24 ?_
        refine J_goto Z.1 29 dX13_isIndex_25 (by decide) ?_
        cases hf
        exact J_zret Z.1 Z.2.2.2.2.2 (z_n (Or.inr rfl)) dX13_isIndex_29
theorem pX13_isIndex_z (p0 : UInt64) : is01 (pX13_isIndex p0) := by
  unfold pX13_isIndex
  (try split) <;> (try split) <;> (try split) <;> (try split) <;> (try split) <;> (try split) <;> (try split) <;> (try split) <;> first | exact Or.inl rfl | exact Or.inr rfl | exact pX13_isIn_z _ _ _
theorem dX13_placeOf_0 : decode cX13_placeOf 0 = .ok (.aload_n 0, 1) := by decide +kernel
theorem dX13_placeOf_1 : decode cX13_placeOf 1 = .ok (.iload_n 1, 1) := by decide +kernel
theorem dX13_placeOf_2 : decode cX13_placeOf 2 = .ok (.iconst 0, 1) := by decide +kernel
theorem dX13_placeOf_3 : decode cX13_placeOf 3 = .ok (.invokevirtual 381, 3) := by decide +kernel
theorem dX13_placeOf_6 : decode cX13_placeOf 6 = .ok (.istore_n 3, 1) := by decide +kernel
theorem dX13_placeOf_7 : decode cX13_placeOf 7 = .ok (.aload_n 0, 1) := by decide +kernel
theorem dX13_placeOf_8 : decode cX13_placeOf 8 = .ok (.iload_n 1, 1) := by decide +kernel
theorem dX13_placeOf_9 : decode cX13_placeOf 9 = .ok (.iconst 4, 1) := by decide +kernel
theorem dX13_placeOf_10 : decode cX13_placeOf 10 = .ok (.invokevirtual 381, 3) := by decide +kernel
theorem dX13_placeOf_13 : decode cX13_placeOf 13 = .ok (.iload_n 3, 1) := by decide +kernel
theorem dX13_placeOf_14 : decode cX13_placeOf 14 = .ok (.invokestatic 351, 3) := by decide +kernel
theorem dX13_placeOf_17 : decode cX13_placeOf 17 = .ok (.ifCond .eq 23, 3) := by decide +kernel
theorem dX13_placeOf_20 : decode cX13_placeOf 20 = .ok (.aload_n 0, 1) := by decide +kernel
theorem dX13_placeOf_21 : decode cX13_placeOf 21 = .ok (.getfield 34, 3) := by decide +kernel
theorem dX13_placeOf_24 : decode cX13_placeOf 24 = .ok (.bipush 16, 2) := by decide +kernel
theorem dX13_placeOf_26 : decode cX13_placeOf 26 = .ok (.aload_n 0, 1) := by decide +kernel
theorem dX13_placeOf_27 : decode cX13_placeOf 27 = .ok (.iload_n 1, 1) := by decide +kernel
theorem dX13_placeOf_28 : decode cX13_placeOf 28 = .ok (.iconst 3, 1) := by decide +kernel
theorem dX13_placeOf_29 : decode cX13_placeOf 29 = .ok (.invokevirtual 381, 3) := by decide +kernel
theorem dX13_placeOf_32 : decode cX13_placeOf 32 = .ok (.imul, 1) := by decide +kernel
theorem dX13_placeOf_33 : decode cX13_placeOf 33 = .ok (.iload_n 2, 1) := by decide +kernel
theorem dX13_placeOf_34 : decode cX13_placeOf 34 = .ok (.iadd, 1) := by decide +kernel
theorem dX13_placeOf_35 : decode cX13_placeOf 35 = .ok (.daload, 1) := by decide +kernel
theorem dX13_placeOf_36 : decode cX13_placeOf 36 = .ok (.d2i, 1) := by decide +kernel
theorem dX13_placeOf_37 : decode cX13_placeOf 37 = .ok (.goto 16, 3) := by decide +kernel
theorem dX13_placeOf_40 : decode cX13_placeOf 40 = .ok (.aload_n 0, 1) := by decide +kernel
theorem dX13_placeOf_41 : decode cX13_placeOf 41 = .ok (.iload_n 1, 1) := by decide +kernel
theorem dX13_placeOf_42 : decode cX13_placeOf 42 = .ok (.iconst 5, 1) := by decide +kernel
theorem dX13_placeOf_43 : decode cX13_placeOf 43 = .ok (.invokevirtual 381, 3) := by decide +kernel
theorem dX13_placeOf_46 : decode cX13_placeOf 46 = .ok (.aload_n 0, 1) := by decide +kernel
theorem dX13_placeOf_47 : decode cX13_placeOf 47 = .ok (.getfield 418, 3) := by decide +kernel
theorem dX13_placeOf_50 : decode cX13_placeOf 50 = .ok (.iload_n 2, 1) := by decide +kernel
theorem dX13_placeOf_51 : decode cX13_placeOf 51 = .ok (.iadd, 1) := by decide +kernel
theorem dX13_placeOf_52 : decode cX13_placeOf 52 = .ok (.imul, 1) := by decide +kernel
theorem dX13_placeOf_53 : decode cX13_placeOf 53 = .ok (.iadd, 1) := by decide +kernel
theorem dX13_placeOf_54 : decode cX13_placeOf 54 = .ok (.ireturn, 1) := by decide +kernel
def pX13_placeOf (g : MT) (h : CT) (this : Nat) (p1 : Int32) (p2 : Int32) : Option Int32 := tg g this 12 (bd (pX13_at g h this p1 0) fun x1 => (bd (pX13_at g h this p1 4) fun x3 => (if (pX13_isIndexed x1) = 0 then bd (pX13_at g h this p1 5) fun x6 => (some (x3 + (x6 * ((hI h this 33) + p2)))) else lt (hR h this 20) fun r8 => (bd (pX13_at g h this p1 3) fun x9 => (nn r8 fun a8 => (tg g a8 22 (ix (gL g a8) ((16 * x9) + p2) (some (x3 + (FP.d2i (hD h a8 (Int32.toNatClampNeg ((16 * x9) + p2)))))))))))))
set_option maxRecDepth 10000 in
set_option maxHeartbeats 4000000 in
theorem pX13_placeOf_ok (G : Gx) (dk : Nat) (hK : 1 ≤ dk) {g : MT} {h : CT} {this : Nat} {p1 : Int32} {p2 : Int32} {r0 : Int32} (hf : pX13_placeOf g h this p1 p2 = some r0) : Ctr G dk yX13_placeOf cX13_placeOf 4 (some .int) [va_rf (some this), .int p1, .int p2] g h (some (.int r0)) g h := by
  refine Ctr.ofZ (lv := [(0, va_rf (some this)), (1, .int p1), (2, .int p2)]) (by decide +kernel) (by simp [cat_i, cat_l, cat_d, cat_rf]) rfl fun X Z => ?_
  unfold pX13_placeOf at hf
  replace hf := tg_i hf
  obtain ⟨t0, hf⟩ := hf
  refine J_aload_n Z.1 0 dX13_placeOf_0 rfl rfl ?_
  refine J_iload_n Z.1 1 dX13_placeOf_1 rfl rfl ?_
  refine J_iconst Z.1 (v := 0) (by decide) dX13_placeOf_2 ?_
  replace hf := bd_i hf
  obtain ⟨x1, q2, hf⟩ := hf
  refine J_callV (ci := 11) (as := [.int p1, .int 0]) (rest := []) (sy := [.int x1]) Z.1 dX13_placeOf_3 cw_X13_381 (pX13_at_ok G (dk - 1) (by omega) q2) rfl rfl t0 (zG Z) rfl (by decide) (zF Z (by omega)) (zO Z (by omega) (by decide)) (zM _) Z.2.1 Z.2.1 rfl rfl ?_
  refine J_istore_n Z.1 (lv2 := [(3, .int x1), (0, va_rf (some this)), (1, .int p1), (2, .int p2)]) dX13_placeOf_6 rfl (zL Z (by decide)) rfl ?_
  refine J_aload_n Z.1 1 dX13_placeOf_7 rfl rfl ?_
  refine J_iload_n Z.1 2 dX13_placeOf_8 rfl rfl ?_
  refine J_iconst Z.1 (v := 4) (by decide) dX13_placeOf_9 ?_
  replace hf := bd_i hf
  obtain ⟨x3, q4, hf⟩ := hf
  refine J_callV (ci := 11) (as := [.int p1, .int 4]) (rest := []) (sy := [.int x3]) Z.1 dX13_placeOf_10 cw_X13_381 (pX13_at_ok G (dk - 1) (by omega) q4) rfl rfl t0 (zG Z) rfl (by decide) (zF Z (by omega)) (zO Z (by omega) (by decide)) (zM _) Z.2.1 Z.2.1 rfl rfl ?_
  refine J_iload_n Z.1 0 dX13_placeOf_13 rfl rfl ?_
  refine J_callS (as := [.int x1]) (rest := [.int x3]) (sy := [.int (pX13_isIndexed x1), .int x3]) Z.1 dX13_placeOf_14 cw_X13_351 (pX13_isIndexed_ok G (dk - 1) (by omega) g h x1) (zG Z) rfl (by simp [cat_i, cat_l, cat_d, cat_rf]) (zF Z (by omega)) (zO Z (by omega) (by decide)) (zM _) Z.2.1 Z.2.1 rfl rfl ?_
  refine J_if_eq Z.1 40 dX13_placeOf_17 (by decide) (fun c5 => ?_) (fun c5 => ?_)
  · rw [if_pos c5] at hf
    refine J_aload_n Z.1 1 dX13_placeOf_40 rfl rfl ?_
    refine J_iload_n Z.1 2 dX13_placeOf_41 rfl rfl ?_
    refine J_iconst Z.1 (v := 5) (by decide) dX13_placeOf_42 ?_
    replace hf := bd_i hf
    obtain ⟨x6, q7, hf⟩ := hf
    refine J_callV (ci := 11) (as := [.int p1, .int 5]) (rest := [.int x3]) (sy := [.int x6, .int x3]) Z.1 dX13_placeOf_43 cw_X13_381 (pX13_at_ok G (dk - 1) (by omega) q7) rfl rfl t0 (zG Z) rfl (by simp [cat_i, cat_l, cat_d, cat_rf]) (zF Z (by omega)) (zO Z (by omega) (by decide)) (zM _) Z.2.1 Z.2.1 rfl rfl ?_
    refine J_aload_n Z.1 1 dX13_placeOf_46 rfl rfl ?_
    refine J_get (v := .int (hI h this 33)) Z.1 dX13_placeOf_47 fl_X13_418 t0 rfl ?_
    refine J_iload_n Z.1 3 dX13_placeOf_50 rfl rfl ?_
    refine J_iadd Z.1 dX13_placeOf_51 ?_
    refine J_imul Z.1 dX13_placeOf_52 ?_
    refine J_iadd Z.1 dX13_placeOf_53 ?_
    cases hf
    exact J_iret Z.1 Z.2.2.2.2.2 dX13_placeOf_54
  · rw [if_neg c5] at hf
    refine J_aload_n Z.1 1 dX13_placeOf_20 rfl rfl ?_
    refine J_get (v := va_rf (hR h this 20)) Z.1 dX13_placeOf_21 fl_X13_34 t0 rfl ?_
    refine J_tr (fun r8 er8 => ?_)
    replace hf := lt_i hf r8 er8
    refine J_bipush Z.1 (v := 16) (by decide) dX13_placeOf_24 ?_
    refine J_aload_n Z.1 1 dX13_placeOf_26 rfl rfl ?_
    refine J_iload_n Z.1 2 dX13_placeOf_27 rfl rfl ?_
    refine J_iconst Z.1 (v := 3) (by decide) dX13_placeOf_28 ?_
    replace hf := bd_i hf
    obtain ⟨x9, q10, hf⟩ := hf
    refine J_callV (ci := 11) (as := [.int p1, .int 3]) (rest := [.int 16, va_rf r8, .int x3]) (sy := [.int x9, .int 16, va_rf r8, .int x3]) Z.1 dX13_placeOf_29 cw_X13_381 (pX13_at_ok G (dk - 1) (by omega) q10) rfl rfl t0 (zG Z) rfl (by simp [cat_i, cat_l, cat_d, cat_rf]) (zF Z (by omega)) (zO Z (by omega) (by decide)) (zM _) Z.2.1 Z.2.1 rfl rfl ?_
    refine J_imul Z.1 dX13_placeOf_32 ?_
    refine J_iload_n Z.1 3 dX13_placeOf_33 rfl rfl ?_
    refine J_iadd Z.1 dX13_placeOf_34 ?_
    replace hf := nn_i hf
    obtain ⟨a8, rfl, hf⟩ := hf
    replace hf := tg_i hf
    obtain ⟨t11, hf⟩ := hf
    replace hf := ix_i hf
    obtain ⟨i12, hf⟩ := hf
    refine J_daload Z.1 dX13_placeOf_35 t11 i12 ?_
    refine J_d2i Z.1 dX13_placeOf_36 ?_
    refine J_goto Z.1 53 dX13_placeOf_37 (by decide) ?_
    refine J_iadd Z.1 dX13_placeOf_53 ?_
    cases hf
    exact J_iret Z.1 Z.2.2.2.2.2 dX13_placeOf_54
theorem dX13_isTrapped_0 : decode cX13_isTrapped 0 = .ok (.aload_n 0, 1) := by decide +kernel
theorem dX13_isTrapped_1 : decode cX13_isTrapped 1 = .ok (.iload_n 1, 1) := by decide +kernel
theorem dX13_isTrapped_2 : decode cX13_isTrapped 2 = .ok (.iconst 0, 1) := by decide +kernel
theorem dX13_isTrapped_3 : decode cX13_isTrapped 3 = .ok (.invokevirtual 381, 3) := by decide +kernel
theorem dX13_isTrapped_6 : decode cX13_isTrapped 6 = .ok (.istore_n 3, 1) := by decide +kernel
theorem dX13_isTrapped_7 : decode cX13_isTrapped 7 = .ok (.iload_n 2, 1) := by decide +kernel
theorem dX13_isTrapped_8 : decode cX13_isTrapped 8 = .ok (.ifCond .ne 21, 3) := by decide +kernel
theorem dX13_isTrapped_11 : decode cX13_isTrapped 11 = .ok (.aload_n 0, 1) := by decide +kernel
theorem dX13_isTrapped_12 : decode cX13_isTrapped 12 = .ok (.iload_n 1, 1) := by decide +kernel
theorem dX13_isTrapped_13 : decode cX13_isTrapped 13 = .ok (.invokevirtual 421, 3) := by decide +kernel
theorem dX13_isTrapped_16 : decode cX13_isTrapped 16 = .ok (.ifCond .eq 13, 3) := by decide +kernel
theorem dX13_isTrapped_19 : decode cX13_isTrapped 19 = .ok (.aload_n 0, 1) := by decide +kernel
theorem dX13_isTrapped_20 : decode cX13_isTrapped 20 = .ok (.iconst 2, 1) := by decide +kernel
theorem dX13_isTrapped_21 : decode cX13_isTrapped 21 = .ok (.iload_n 1, 1) := by decide +kernel
theorem dX13_isTrapped_22 : decode cX13_isTrapped 22 = .ok (.iload_n 2, 1) := by decide +kernel
theorem dX13_isTrapped_23 : decode cX13_isTrapped 23 = .ok (.invokevirtual 424, 3) := by decide +kernel
theorem dX13_isTrapped_26 : decode cX13_isTrapped 26 = .ok (.goto 68, 3) := by decide +kernel
theorem dX13_isTrapped_29 : decode cX13_isTrapped 29 = .ok (.iload_n 3, 1) := by decide +kernel
theorem dX13_isTrapped_30 : decode cX13_isTrapped 30 = .ok (.invokestatic 351, 3) := by decide +kernel
theorem dX13_isTrapped_33 : decode cX13_isTrapped 33 = .ok (.ifCond .eq 35, 3) := by decide +kernel
theorem dX13_isTrapped_36 : decode cX13_isTrapped 36 = .ok (.aload_n 0, 1) := by decide +kernel
theorem dX13_isTrapped_37 : decode cX13_isTrapped 37 = .ok (.getfield 34, 3) := by decide +kernel
theorem dX13_isTrapped_40 : decode cX13_isTrapped 40 = .ok (.bipush 16, 2) := by decide +kernel
theorem dX13_isTrapped_42 : decode cX13_isTrapped 42 = .ok (.aload_n 0, 1) := by decide +kernel
theorem dX13_isTrapped_43 : decode cX13_isTrapped 43 = .ok (.iload_n 1, 1) := by decide +kernel
theorem dX13_isTrapped_44 : decode cX13_isTrapped 44 = .ok (.iconst 3, 1) := by decide +kernel
theorem dX13_isTrapped_45 : decode cX13_isTrapped 45 = .ok (.invokevirtual 381, 3) := by decide +kernel
theorem dX13_isTrapped_48 : decode cX13_isTrapped 48 = .ok (.imul, 1) := by decide +kernel
theorem dX13_isTrapped_49 : decode cX13_isTrapped 49 = .ok (.iload_n 2, 1) := by decide +kernel
theorem dX13_isTrapped_50 : decode cX13_isTrapped 50 = .ok (.iadd, 1) := by decide +kernel
theorem dX13_isTrapped_51 : decode cX13_isTrapped 51 = .ok (.daload, 1) := by decide +kernel
theorem dX13_isTrapped_52 : decode cX13_isTrapped 52 = .ok (.invokestatic 428, 3) := by decide +kernel
theorem dX13_isTrapped_55 : decode cX13_isTrapped 55 = .ok (.ifCond .ne 13, 3) := by decide +kernel
theorem dX13_isTrapped_58 : decode cX13_isTrapped 58 = .ok (.aload_n 0, 1) := by decide +kernel
theorem dX13_isTrapped_59 : decode cX13_isTrapped 59 = .ok (.iconst 3, 1) := by decide +kernel
theorem dX13_isTrapped_60 : decode cX13_isTrapped 60 = .ok (.iload_n 1, 1) := by decide +kernel
theorem dX13_isTrapped_61 : decode cX13_isTrapped 61 = .ok (.iload_n 2, 1) := by decide +kernel
theorem dX13_isTrapped_62 : decode cX13_isTrapped 62 = .ok (.invokevirtual 424, 3) := by decide +kernel
theorem dX13_isTrapped_65 : decode cX13_isTrapped 65 = .ok (.goto 29, 3) := by decide +kernel
theorem dX13_isTrapped_68 : decode cX13_isTrapped 68 = .ok (.iload_n 3, 1) := by decide +kernel
theorem dX13_isTrapped_69 : decode cX13_isTrapped 69 = .ok (.invokestatic 360, 3) := by decide +kernel
theorem dX13_isTrapped_72 : decode cX13_isTrapped 72 = .ok (.ifCond .eq 22, 3) := by decide +kernel
theorem dX13_isTrapped_75 : decode cX13_isTrapped 75 = .ok (.aload_n 0, 1) := by decide +kernel
theorem dX13_isTrapped_76 : decode cX13_isTrapped 76 = .ok (.iload_n 1, 1) := by decide +kernel
theorem dX13_isTrapped_77 : decode cX13_isTrapped 77 = .ok (.iload_n 2, 1) := by decide +kernel
theorem dX13_isTrapped_78 : decode cX13_isTrapped 78 = .ok (.invokevirtual 432, 3) := by decide +kernel
theorem dX13_isTrapped_81 : decode cX13_isTrapped 81 = .ok (.invokestatic 297, 3) := by decide +kernel
theorem dX13_isTrapped_84 : decode cX13_isTrapped 84 = .ok (.ifCond .ne 10, 3) := by decide +kernel
theorem dX13_isTrapped_87 : decode cX13_isTrapped 87 = .ok (.aload_n 0, 1) := by decide +kernel
theorem dX13_isTrapped_88 : decode cX13_isTrapped 88 = .ok (.iconst 1, 1) := by decide +kernel
theorem dX13_isTrapped_89 : decode cX13_isTrapped 89 = .ok (.iload_n 1, 1) := by decide +kernel
theorem dX13_isTrapped_90 : decode cX13_isTrapped 90 = .ok (.iload_n 2, 1) := by decide +kernel
theorem dX13_isTrapped_91 : decode cX13_isTrapped 91 = .ok (.invokevirtual 424, 3) := by decide +kernel
theorem dX13_isTrapped_94 : decode cX13_isTrapped 94 = .ok (.aload_n 0, 1) := by decide +kernel
theorem dX13_isTrapped_95 : decode cX13_isTrapped 95 = .ok (.getfield 369, 3) := by decide +kernel
theorem dX13_isTrapped_98 : decode cX13_isTrapped 98 = .ok (.ifCond .le 7, 3) := by decide +kernel
theorem dX13_isTrapped_101 : decode cX13_isTrapped 101 = .ok (.iconst 1, 1) := by decide +kernel
theorem dX13_isTrapped_102 : decode cX13_isTrapped 102 = .ok (.goto 4, 3) := by decide +kernel
theorem dX13_isTrapped_105 : decode cX13_isTrapped 105 = .ok (.iconst 0, 1) := by decide +kernel
theorem dX13_isTrapped_106 : decode cX13_isTrapped 106 = .ok (.ireturn, 1) := by decide +kernel
def pX13_isTrapped_b94 (g : MT) (this : Nat) (p1 : Int32) (p2 : Int32) (h : CT) : Option ((Int32) × CT) := if (hI h this 37) ≤ 0 then some (0, h) else some (1, h)
set_option maxRecDepth 10000 in
set_option maxHeartbeats 4000000 in
theorem pX13_isTrapped_b94_ok {X : Cx} {G : Gx} {dk : Nat} {g : MT} {r0 : Int32} {h0 : CT} {this : Nat} {p1 : Int32} {p2 : Int32} (Z : Zx X G cX13_isTrapped RX13 4 dk (some .boolean) (some (.int r0)) g h0) (hK : 3 ≤ dk) (t0 : gT g this = 12) (h : CT) (hf : pX13_isTrapped_b94 g this p1 p2 h = some (r0, h0)) : J X g h 94 [(0, va_rf (some this))] [] := by
  unfold pX13_isTrapped_b94 at hf
  refine J_aload_n Z.1 0 dX13_isTrapped_94 rfl rfl ?_
  refine J_get (v := .int (hI h this 37)) Z.1 dX13_isTrapped_95 fl_X13_369 t0 rfl ?_
  refine J_if_le Z.1 105 dX13_isTrapped_98 (by decide) (fun c1 => ?_) (fun c1 => ?_)
  · rw [if_pos c1] at hf
    refine J_iconst Z.1 (v := 0) (by decide) dX13_isTrapped_105 ?_
    cases hf
    exact J_zret Z.1 Z.2.2.2.2.2 (z_n (Or.inl rfl)) dX13_isTrapped_106
  · rw [if_neg c1] at hf
    refine J_iconst Z.1 (v := 1) (by decide) dX13_isTrapped_101 ?_
    refine J_goto Z.1 106 dX13_isTrapped_102 (by decide) ?_
    cases hf
    exact J_zret Z.1 Z.2.2.2.2.2 (z_n (Or.inr rfl)) dX13_isTrapped_106
def pX13_isTrapped_b68 (g : MT) (this : Nat) (p1 : Int32) (p2 : Int32) (l3 : Int32) (h : CT) : Option ((Int32) × CT) := if (pX13_isMemory l3) = 0 then pX13_isTrapped_b94 g this p1 p2  h else bd (pX13_placeOf g h this p1 p2) fun x2 => (if (pX13_isWordAt x2) = 0 then bd (pX13_traps g h this 1 p1 p2) fun h5 => (pX13_isTrapped_b94 g this p1 p2  h5) else pX13_isTrapped_b94 g this p1 p2  h)
set_option maxRecDepth 10000 in
set_option maxHeartbeats 4000000 in
theorem pX13_isTrapped_b68_ok {X : Cx} {G : Gx} {dk : Nat} {g : MT} {r0 : Int32} {h0 : CT} {this : Nat} {p1 : Int32} {p2 : Int32} (Z : Zx X G cX13_isTrapped RX13 4 dk (some .boolean) (some (.int r0)) g h0) (hK : 3 ≤ dk) (t0 : gT g this = 12) (l3 : Int32) (h : CT) (hf : pX13_isTrapped_b68 g this p1 p2 l3 h = some (r0, h0)) : J X g h 68 [(0, va_rf (some this)), (1, .int p1), (2, .int p2), (3, .int l3)] [] := by
  unfold pX13_isTrapped_b68 at hf
  refine J_iload_n Z.1 3 dX13_isTrapped_68 rfl rfl ?_
  refine J_callS (as := [.int l3]) (rest := []) (sy := [.int (pX13_isMemory l3)]) Z.1 dX13_isTrapped_69 cw_X13_360 (pX13_isMemory_ok G (dk - 1) (by omega) g h l3) (zG Z) rfl (by decide) (zF Z (by omega)) (zO Z (by omega) (by decide)) (zM _) Z.2.1 Z.2.1 rfl rfl ?_
  refine J_if_eq Z.1 94 dX13_isTrapped_72 (by decide) (fun c1 => ?_) (fun c1 => ?_)
  · rw [if_pos c1] at hf
    refine J_lv [0] rfl ?_
    exact pX13_isTrapped_b94_ok Z hK t0  _ hf
  · rw [if_neg c1] at hf
    refine J_aload_n Z.1 0 dX13_isTrapped_75 rfl rfl ?_
    refine J_iload_n Z.1 1 dX13_isTrapped_76 rfl rfl ?_
    refine J_iload_n Z.1 2 dX13_isTrapped_77 rfl rfl ?_
    replace hf := bd_i hf
    obtain ⟨x2, q3, hf⟩ := hf
    refine J_callV (ci := 11) (as := [.int p1, .int p2]) (rest := []) (sy := [.int x2]) Z.1 dX13_isTrapped_78 cw_X13_432 (pX13_placeOf_ok G (dk - 1) (by omega) q3) rfl rfl t0 (zG Z) rfl (by decide) (zF Z (by omega)) (zO Z (by omega) (by decide)) (zM _) Z.2.1 Z.2.1 rfl rfl ?_
    refine J_callS (as := [.int x2]) (rest := []) (sy := [.int (pX13_isWordAt x2)]) Z.1 dX13_isTrapped_81 cw_X13_297 (pX13_isWordAt_ok G (dk - 1) (by omega) g h x2) (zG Z) rfl (by decide) (zF Z (by omega)) (zO Z (by omega) (by decide)) (zM _) Z.2.1 Z.2.1 rfl rfl ?_
    refine J_if_ne Z.1 94 dX13_isTrapped_84 (by decide) (fun c4 => ?_) (fun c4 => ?_)
    · rw [if_neg c4] at hf
      refine J_lv [0] rfl ?_
      exact pX13_isTrapped_b94_ok Z hK t0  _ hf
    · rw [if_pos c4] at hf
      refine J_aload_n Z.1 0 dX13_isTrapped_87 rfl rfl ?_
      refine J_iconst Z.1 (v := 1) (by decide) dX13_isTrapped_88 ?_
      refine J_iload_n Z.1 1 dX13_isTrapped_89 rfl rfl ?_
      refine J_iload_n Z.1 2 dX13_isTrapped_90 rfl rfl ?_
      replace hf := bd_i hf
      obtain ⟨h5, q6, hf⟩ := hf
      refine J_callV (ci := 11) (as := [.int 1, .int p1, .int p2]) (rest := []) (sy := []) Z.1 dX13_isTrapped_91 cw_X13_424 (pX13_traps_ok G (dk - 1) (by omega) q6) rfl rfl t0 (zG Z) rfl (by decide) (zF Z (by omega)) (zO Z (by omega) (by decide)) (zM _) Z.2.1 Z.2.1 rfl rfl ?_
      refine J_lv [0] rfl ?_
      exact pX13_isTrapped_b94_ok Z hK t0  _ hf
def pX13_isTrapped_b29 (g : MT) (this : Nat) (p1 : Int32) (p2 : Int32) (l3 : Int32) (h : CT) : Option ((Int32) × CT) := if (pX13_isIndexed l3) = 0 then pX13_isTrapped_b68 g this p1 p2  l3 h else lt (hR h this 20) fun r2 => (bd (pX13_at g h this p1 3) fun x3 => (nn r2 fun a2 => (tg g a2 22 (ix (gL g a2) ((16 * x3) + p2) (if (pX13_isIndex (hD h a2 (Int32.toNatClampNeg ((16 * x3) + p2)))) = 0 then bd (pX13_traps g h this 3 p1 p2) fun h8 => (pX13_isTrapped_b94 g this p1 p2  h8) else pX13_isTrapped_b68 g this p1 p2  l3 h)))))
set_option maxRecDepth 10000 in
set_option maxHeartbeats 4000000 in
theorem pX13_isTrapped_b29_ok {X : Cx} {G : Gx} {dk : Nat} {g : MT} {r0 : Int32} {h0 : CT} {this : Nat} {p1 : Int32} {p2 : Int32} (Z : Zx X G cX13_isTrapped RX13 4 dk (some .boolean) (some (.int r0)) g h0) (hK : 3 ≤ dk) (t0 : gT g this = 12) (l3 : Int32) (h : CT) (hf : pX13_isTrapped_b29 g this p1 p2 l3 h = some (r0, h0)) : J X g h 29 [(0, va_rf (some this)), (1, .int p1), (2, .int p2), (3, .int l3)] [] := by
  unfold pX13_isTrapped_b29 at hf
  refine J_iload_n Z.1 3 dX13_isTrapped_29 rfl rfl ?_
  refine J_callS (as := [.int l3]) (rest := []) (sy := [.int (pX13_isIndexed l3)]) Z.1 dX13_isTrapped_30 cw_X13_351 (pX13_isIndexed_ok G (dk - 1) (by omega) g h l3) (zG Z) rfl (by decide) (zF Z (by omega)) (zO Z (by omega) (by decide)) (zM _) Z.2.1 Z.2.1 rfl rfl ?_
  refine J_if_eq Z.1 68 dX13_isTrapped_33 (by decide) (fun c1 => ?_) (fun c1 => ?_)
  · rw [if_pos c1] at hf
    exact pX13_isTrapped_b68_ok Z hK t0  _ _ hf
  · rw [if_neg c1] at hf
    refine J_aload_n Z.1 0 dX13_isTrapped_36 rfl rfl ?_
    refine J_get (v := va_rf (hR h this 20)) Z.1 dX13_isTrapped_37 fl_X13_34 t0 rfl ?_
    refine J_tr (fun r2 er2 => ?_)
    replace hf := lt_i hf r2 er2
    refine J_bipush Z.1 (v := 16) (by decide) dX13_isTrapped_40 ?_
    refine J_aload_n Z.1 0 dX13_isTrapped_42 rfl rfl ?_
    refine J_iload_n Z.1 1 dX13_isTrapped_43 rfl rfl ?_
    refine J_iconst Z.1 (v := 3) (by decide) dX13_isTrapped_44 ?_
    replace hf := bd_i hf
    obtain ⟨x3, q4, hf⟩ := hf
    refine J_callV (ci := 11) (as := [.int p1, .int 3]) (rest := [.int 16, va_rf r2]) (sy := [.int x3, .int 16, va_rf r2]) Z.1 dX13_isTrapped_45 cw_X13_381 (pX13_at_ok G (dk - 1) (by omega) q4) rfl rfl t0 (zG Z) rfl (by simp [cat_i, cat_l, cat_d, cat_rf]) (zF Z (by omega)) (zO Z (by omega) (by decide)) (zM _) Z.2.1 Z.2.1 rfl rfl ?_
    refine J_imul Z.1 dX13_isTrapped_48 ?_
    refine J_iload_n Z.1 2 dX13_isTrapped_49 rfl rfl ?_
    refine J_iadd Z.1 dX13_isTrapped_50 ?_
    replace hf := nn_i hf
    obtain ⟨a2, rfl, hf⟩ := hf
    replace hf := tg_i hf
    obtain ⟨t5, hf⟩ := hf
    replace hf := ix_i hf
    obtain ⟨i6, hf⟩ := hf
    refine J_daload Z.1 dX13_isTrapped_51 t5 i6 ?_
    refine J_callS (as := [.double (hD h a2 (Int32.toNatClampNeg ((16 * x3) + p2)))]) (rest := []) (sy := [.int (pX13_isIndex (hD h a2 (Int32.toNatClampNeg ((16 * x3) + p2))))]) Z.1 dX13_isTrapped_52 cw_X13_428 (pX13_isIndex_ok G (dk - 1) (by omega) g h (hD h a2 (Int32.toNatClampNeg ((16 * x3) + p2)))) (zG Z) rfl (by decide) (zF Z (by omega)) (zO Z (by omega) (by decide)) (zM _) Z.2.1 Z.2.1 rfl rfl ?_
    refine J_if_ne Z.1 68 dX13_isTrapped_55 (by decide) (fun c7 => ?_) (fun c7 => ?_)
    · rw [if_neg c7] at hf
      exact pX13_isTrapped_b68_ok Z hK t0  _ _ hf
    · rw [if_pos c7] at hf
      refine J_aload_n Z.1 0 dX13_isTrapped_58 rfl rfl ?_
      refine J_iconst Z.1 (v := 3) (by decide) dX13_isTrapped_59 ?_
      refine J_iload_n Z.1 1 dX13_isTrapped_60 rfl rfl ?_
      refine J_iload_n Z.1 2 dX13_isTrapped_61 rfl rfl ?_
      replace hf := bd_i hf
      obtain ⟨h8, q9, hf⟩ := hf
      refine J_callV (ci := 11) (as := [.int 3, .int p1, .int p2]) (rest := []) (sy := []) Z.1 dX13_isTrapped_62 cw_X13_424 (pX13_traps_ok G (dk - 1) (by omega) q9) rfl rfl t0 (zG Z) rfl (by decide) (zF Z (by omega)) (zO Z (by omega) (by decide)) (zM _) Z.2.1 Z.2.1 rfl rfl ?_
      refine J_goto Z.1 94 dX13_isTrapped_65 (by decide) ?_
      refine J_lv [0] rfl ?_
      exact pX13_isTrapped_b94_ok Z hK t0  _ hf
def pX13_isTrapped (g : MT) (h : CT) (this : Nat) (p1 : Int32) (p2 : Int32) : Option ((Int32) × CT) := tg g this 12 (bd (pX13_at g h this p1 0) fun x1 => (if p2 = 0 then bd (pX13_missesRow g h this p1) fun x4 => (if x4 = 0 then pX13_isTrapped_b29 g this p1 p2  x1 h else bd (pX13_traps g h this 2 p1 p2) fun h7 => (pX13_isTrapped_b94 g this p1 p2  h7)) else pX13_isTrapped_b29 g this p1 p2  x1 h))
set_option maxRecDepth 10000 in
set_option maxHeartbeats 4000000 in
theorem pX13_isTrapped_ok (G : Gx) (dk : Nat) (hK : 3 ≤ dk) {g : MT} {h h0 : CT} {this : Nat} {p1 : Int32} {p2 : Int32} {r0 : Int32} (hf : pX13_isTrapped g h this p1 p2 = some (r0, h0)) : Ctr G dk yX13_isTrapped cX13_isTrapped 4 (some .boolean) [va_rf (some this), .int p1, .int p2] g h (some (.int r0)) g h0 := by
  refine Ctr.ofZ (lv := [(0, va_rf (some this)), (1, .int p1), (2, .int p2)]) (by decide +kernel) (by simp [cat_i, cat_l, cat_d, cat_rf]) rfl fun X Z => ?_
  unfold pX13_isTrapped at hf
  replace hf := tg_i hf
  obtain ⟨t0, hf⟩ := hf
  refine J_aload_n Z.1 0 dX13_isTrapped_0 rfl rfl ?_
  refine J_iload_n Z.1 1 dX13_isTrapped_1 rfl rfl ?_
  refine J_iconst Z.1 (v := 0) (by decide) dX13_isTrapped_2 ?_
  replace hf := bd_i hf
  obtain ⟨x1, q2, hf⟩ := hf
  refine J_callV (ci := 11) (as := [.int p1, .int 0]) (rest := []) (sy := [.int x1]) Z.1 dX13_isTrapped_3 cw_X13_381 (pX13_at_ok G (dk - 1) (by omega) q2) rfl rfl t0 (zG Z) rfl (by decide) (zF Z (by omega)) (zO Z (by omega) (by decide)) (zM _) Z.2.1 Z.2.1 rfl rfl ?_
  refine J_istore_n Z.1 (lv2 := [(3, .int x1), (0, va_rf (some this)), (1, .int p1), (2, .int p2)]) dX13_isTrapped_6 rfl (zL Z (by decide)) rfl ?_
  refine J_iload_n Z.1 3 dX13_isTrapped_7 rfl rfl ?_
  refine J_if_ne Z.1 29 dX13_isTrapped_8 (by decide) (fun c3 => ?_) (fun c3 => ?_)
  · rw [if_neg c3] at hf
    refine J_lv [1, 2, 3, 0] rfl ?_
    exact pX13_isTrapped_b29_ok Z hK t0  _ _ hf
  · rw [if_pos c3] at hf
    refine J_aload_n Z.1 1 dX13_isTrapped_11 rfl rfl ?_
    refine J_iload_n Z.1 2 dX13_isTrapped_12 rfl rfl ?_
    replace hf := bd_i hf
    obtain ⟨x4, q5, hf⟩ := hf
    refine J_callV (ci := 11) (as := [.int p1]) (rest := []) (sy := [.int x4]) Z.1 dX13_isTrapped_13 cw_X13_421 (pX13_missesRow_ok G (dk - 1) (by omega) q5) rfl rfl t0 (zG Z) rfl (by decide) (zF Z (by omega)) (zO Z (by omega) (by decide)) (zM _) Z.2.1 Z.2.1 rfl rfl ?_
    refine J_if_eq Z.1 29 dX13_isTrapped_16 (by decide) (fun c6 => ?_) (fun c6 => ?_)
    · rw [if_pos c6] at hf
      refine J_lv [1, 2, 3, 0] rfl ?_
      exact pX13_isTrapped_b29_ok Z hK t0  _ _ hf
    · rw [if_neg c6] at hf
      refine J_aload_n Z.1 1 dX13_isTrapped_19 rfl rfl ?_
      refine J_iconst Z.1 (v := 2) (by decide) dX13_isTrapped_20 ?_
      refine J_iload_n Z.1 2 dX13_isTrapped_21 rfl rfl ?_
      refine J_iload_n Z.1 3 dX13_isTrapped_22 rfl rfl ?_
      replace hf := bd_i hf
      obtain ⟨h7, q8, hf⟩ := hf
      refine J_callV (ci := 11) (as := [.int 2, .int p1, .int p2]) (rest := []) (sy := []) Z.1 dX13_isTrapped_23 cw_X13_424 (pX13_traps_ok G (dk - 1) (by omega) q8) rfl rfl t0 (zG Z) rfl (by decide) (zF Z (by omega)) (zO Z (by omega) (by decide)) (zM _) Z.2.1 Z.2.1 rfl rfl ?_
      refine J_goto Z.1 94 dX13_isTrapped_26 (by decide) ?_
      refine J_lv [1] rfl ?_
      exact pX13_isTrapped_b94_ok Z hK t0  _ hf
theorem dX13_waitsFor_0 : decode cX13_waitsFor 0 = .ok (.iload_n 3, 1) := by decide +kernel
theorem dX13_waitsFor_1 : decode cX13_waitsFor 1 = .ok (.aload_n 0, 1) := by decide +kernel
theorem dX13_waitsFor_2 : decode cX13_waitsFor 2 = .ok (.getfield 38, 3) := by decide +kernel
theorem dX13_waitsFor_5 : decode cX13_waitsFor 5 = .ok (.bipush 16, 2) := by decide +kernel
theorem dX13_waitsFor_7 : decode cX13_waitsFor 7 = .ok (.iload_n 1, 1) := by decide +kernel
theorem dX13_waitsFor_8 : decode cX13_waitsFor 8 = .ok (.imul, 1) := by decide +kernel
theorem dX13_waitsFor_9 : decode cX13_waitsFor 9 = .ok (.iload_n 2, 1) := by decide +kernel
theorem dX13_waitsFor_10 : decode cX13_waitsFor 10 = .ok (.iadd, 1) := by decide +kernel
theorem dX13_waitsFor_11 : decode cX13_waitsFor 11 = .ok (.iaload, 1) := by decide +kernel
theorem dX13_waitsFor_12 : decode cX13_waitsFor 12 = .ok (.invokestatic 178, 3) := by decide +kernel
theorem dX13_waitsFor_15 : decode cX13_waitsFor 15 = .ok (.ireturn, 1) := by decide +kernel
def pX13_waitsFor (g : MT) (h : CT) (this : Nat) (p1 : Int32) (p2 : Int32) (p3 : Int32) : Option Int32 := tg g this 12 (lt (hR h this 23) fun r1 => (nn r1 fun a1 => (tg g a1 20 (ix (gL g a1) ((16 * p1) + p2) (some (pJ9_max_7cf53 p3 (hI h a1 (Int32.toNatClampNeg ((16 * p1) + p2)))))))))
set_option maxRecDepth 10000 in
set_option maxHeartbeats 4000000 in
theorem pX13_waitsFor_ok (G : Gx) (dk : Nat) (hK : 1 ≤ dk) {g : MT} {h : CT} {this : Nat} {p1 : Int32} {p2 : Int32} {p3 : Int32} {r0 : Int32} (hf : pX13_waitsFor g h this p1 p2 p3 = some r0) : Ctr G dk yX13_waitsFor cX13_waitsFor 4 (some .int) [va_rf (some this), .int p1, .int p2, .int p3] g h (some (.int r0)) g h := by
  refine Ctr.ofZ (lv := [(0, va_rf (some this)), (1, .int p1), (2, .int p2), (3, .int p3)]) (by decide +kernel) (by simp [cat_i, cat_l, cat_d, cat_rf]) rfl fun X Z => ?_
  unfold pX13_waitsFor at hf
  replace hf := tg_i hf
  obtain ⟨t0, hf⟩ := hf
  refine J_iload_n Z.1 3 dX13_waitsFor_0 rfl rfl ?_
  refine J_aload_n Z.1 0 dX13_waitsFor_1 rfl rfl ?_
  refine J_get (v := va_rf (hR h this 23)) Z.1 dX13_waitsFor_2 fl_X13_38 t0 rfl ?_
  refine J_tr (fun r1 er1 => ?_)
  replace hf := lt_i hf r1 er1
  refine J_bipush Z.1 (v := 16) (by decide) dX13_waitsFor_5 ?_
  refine J_iload_n Z.1 1 dX13_waitsFor_7 rfl rfl ?_
  refine J_imul Z.1 dX13_waitsFor_8 ?_
  refine J_iload_n Z.1 2 dX13_waitsFor_9 rfl rfl ?_
  refine J_iadd Z.1 dX13_waitsFor_10 ?_
  replace hf := nn_i hf
  obtain ⟨a1, rfl, hf⟩ := hf
  replace hf := tg_i hf
  obtain ⟨t2, hf⟩ := hf
  replace hf := ix_i hf
  obtain ⟨i3, hf⟩ := hf
  refine J_iaload Z.1 dX13_waitsFor_11 t2 i3 ?_
  refine J_callS (as := [.int p3, .int (hI h a1 (Int32.toNatClampNeg ((16 * p1) + p2)))]) (rest := []) (sy := [.int (pJ9_max_7cf53 p3 (hI h a1 (Int32.toNatClampNeg ((16 * p1) + p2))))]) Z.1 dX13_waitsFor_12 cw_X13_178 (pJ9_max_7cf53_ok G (dk - 1) (by omega) g h p3 (hI h a1 (Int32.toNatClampNeg ((16 * p1) + p2)))) (zG Z) rfl (by decide) (zF Z (by omega)) (zO Z (by omega) (by decide)) (zM _) Z.2.1 Z.2.1 rfl rfl ?_
  cases hf
  exact J_iret Z.1 Z.2.2.2.2.2 dX13_waitsFor_15
theorem dX13_takenAt_0 : decode cX13_takenAt 0 = .ok (.aload_n 0, 1) := by decide +kernel
theorem dX13_takenAt_1 : decode cX13_takenAt 1 = .ok (.iload_n 1, 1) := by decide +kernel
theorem dX13_takenAt_2 : decode cX13_takenAt 2 = .ok (.iconst 0, 1) := by decide +kernel
theorem dX13_takenAt_3 : decode cX13_takenAt 3 = .ok (.invokevirtual 381, 3) := by decide +kernel
theorem dX13_takenAt_6 : decode cX13_takenAt 6 = .ok (.istore 5, 2) := by decide +kernel
theorem dX13_takenAt_8 : decode cX13_takenAt 8 = .ok (.iload_n 3, 1) := by decide +kernel
theorem dX13_takenAt_9 : decode cX13_takenAt 9 = .ok (.iload 4, 2) := by decide +kernel
theorem dX13_takenAt_11 : decode cX13_takenAt 11 = .ok (.iconst 1, 1) := by decide +kernel
theorem dX13_takenAt_12 : decode cX13_takenAt 12 = .ok (.iadd, 1) := by decide +kernel
theorem dX13_takenAt_13 : decode cX13_takenAt 13 = .ok (.invokestatic 178, 3) := by decide +kernel
theorem dX13_takenAt_16 : decode cX13_takenAt 16 = .ok (.istore 6, 2) := by decide +kernel
theorem dX13_takenAt_18 : decode cX13_takenAt 18 = .ok (.iload 5, 2) := by decide +kernel
theorem dX13_takenAt_20 : decode cX13_takenAt 20 = .ok (.invokestatic 383, 3) := by decide +kernel
theorem dX13_takenAt_23 : decode cX13_takenAt 23 = .ok (.ifCond .eq 18, 3) := by decide +kernel
theorem dX13_takenAt_26 : decode cX13_takenAt 26 = .ok (.aload_n 0, 1) := by decide +kernel
theorem dX13_takenAt_27 : decode cX13_takenAt 27 = .ok (.aload_n 0, 1) := by decide +kernel
theorem dX13_takenAt_28 : decode cX13_takenAt 28 = .ok (.iload_n 1, 1) := by decide +kernel
theorem dX13_takenAt_29 : decode cX13_takenAt 29 = .ok (.iconst 2, 1) := by decide +kernel
theorem dX13_takenAt_30 : decode cX13_takenAt 30 = .ok (.invokevirtual 381, 3) := by decide +kernel
theorem dX13_takenAt_33 : decode cX13_takenAt 33 = .ok (.iload_n 2, 1) := by decide +kernel
theorem dX13_takenAt_34 : decode cX13_takenAt 34 = .ok (.iload 6, 2) := by decide +kernel
theorem dX13_takenAt_36 : decode cX13_takenAt 36 = .ok (.invokevirtual 435, 3) := by decide +kernel
theorem dX13_takenAt_39 : decode cX13_takenAt 39 = .ok (.istore 6, 2) := by decide +kernel
theorem dX13_takenAt_41 : decode cX13_takenAt 41 = .ok (.iload 5, 2) := by decide +kernel
theorem dX13_takenAt_43 : decode cX13_takenAt 43 = .ok (.invokestatic 389, 3) := by decide +kernel
theorem dX13_takenAt_46 : decode cX13_takenAt 46 = .ok (.ifCond .eq 18, 3) := by decide +kernel
theorem dX13_takenAt_49 : decode cX13_takenAt 49 = .ok (.aload_n 0, 1) := by decide +kernel
theorem dX13_takenAt_50 : decode cX13_takenAt 50 = .ok (.aload_n 0, 1) := by decide +kernel
theorem dX13_takenAt_51 : decode cX13_takenAt 51 = .ok (.iload_n 1, 1) := by decide +kernel
theorem dX13_takenAt_52 : decode cX13_takenAt 52 = .ok (.iconst 3, 1) := by decide +kernel
theorem dX13_takenAt_53 : decode cX13_takenAt 53 = .ok (.invokevirtual 381, 3) := by decide +kernel
theorem dX13_takenAt_56 : decode cX13_takenAt 56 = .ok (.iload_n 2, 1) := by decide +kernel
theorem dX13_takenAt_57 : decode cX13_takenAt 57 = .ok (.iload 6, 2) := by decide +kernel
theorem dX13_takenAt_59 : decode cX13_takenAt 59 = .ok (.invokevirtual 435, 3) := by decide +kernel
theorem dX13_takenAt_62 : decode cX13_takenAt 62 = .ok (.istore 6, 2) := by decide +kernel
theorem dX13_takenAt_64 : decode cX13_takenAt 64 = .ok (.iload 5, 2) := by decide +kernel
theorem dX13_takenAt_66 : decode cX13_takenAt 66 = .ok (.invokestatic 392, 3) := by decide +kernel
theorem dX13_takenAt_69 : decode cX13_takenAt 69 = .ok (.ifCond .eq 18, 3) := by decide +kernel
theorem dX13_takenAt_72 : decode cX13_takenAt 72 = .ok (.aload_n 0, 1) := by decide +kernel
theorem dX13_takenAt_73 : decode cX13_takenAt 73 = .ok (.aload_n 0, 1) := by decide +kernel
theorem dX13_takenAt_74 : decode cX13_takenAt 74 = .ok (.iload_n 1, 1) := by decide +kernel
theorem dX13_takenAt_75 : decode cX13_takenAt 75 = .ok (.iconst 1, 1) := by decide +kernel
theorem dX13_takenAt_76 : decode cX13_takenAt 76 = .ok (.invokevirtual 381, 3) := by decide +kernel
theorem dX13_takenAt_79 : decode cX13_takenAt 79 = .ok (.iload_n 2, 1) := by decide +kernel
theorem dX13_takenAt_80 : decode cX13_takenAt 80 = .ok (.iload 6, 2) := by decide +kernel
theorem dX13_takenAt_82 : decode cX13_takenAt 82 = .ok (.invokevirtual 435, 3) := by decide +kernel
theorem dX13_takenAt_85 : decode cX13_takenAt 85 = .ok (.istore 6, 2) := by decide +kernel
theorem dX13_takenAt_87 : decode cX13_takenAt 87 = .ok (.iload 5, 2) := by decide +kernel
theorem dX13_takenAt_89 : decode cX13_takenAt 89 = .ok (.invokestatic 363, 3) := by decide +kernel
theorem dX13_takenAt_92 : decode cX13_takenAt 92 = .ok (.ifCond .eq 51, 3) := by decide +kernel
theorem dX13_takenAt_95 : decode cX13_takenAt 95 = .ok (.bipush 16, 2) := by decide +kernel
theorem dX13_takenAt_97 : decode cX13_takenAt 97 = .ok (.aload_n 0, 1) := by decide +kernel
theorem dX13_takenAt_98 : decode cX13_takenAt 98 = .ok (.iload_n 1, 1) := by decide +kernel
theorem dX13_takenAt_99 : decode cX13_takenAt 99 = .ok (.iconst 1, 1) := by decide +kernel
theorem dX13_takenAt_100 : decode cX13_takenAt 100 = .ok (.invokevirtual 381, 3) := by decide +kernel
theorem dX13_takenAt_103 : decode cX13_takenAt 103 = .ok (.imul, 1) := by decide +kernel
theorem dX13_takenAt_104 : decode cX13_takenAt 104 = .ok (.iload_n 2, 1) := by decide +kernel
theorem dX13_takenAt_105 : decode cX13_takenAt 105 = .ok (.iadd, 1) := by decide +kernel
theorem dX13_takenAt_106 : decode cX13_takenAt 106 = .ok (.istore 7, 2) := by decide +kernel
theorem dX13_takenAt_108 : decode cX13_takenAt 108 = .ok (.iload 6, 2) := by decide +kernel
theorem dX13_takenAt_110 : decode cX13_takenAt 110 = .ok (.aload_n 0, 1) := by decide +kernel
theorem dX13_takenAt_111 : decode cX13_takenAt 111 = .ok (.getfield 38, 3) := by decide +kernel
theorem dX13_takenAt_114 : decode cX13_takenAt 114 = .ok (.iload 7, 2) := by decide +kernel
theorem dX13_takenAt_116 : decode cX13_takenAt 116 = .ok (.iaload, 1) := by decide +kernel
theorem dX13_takenAt_117 : decode cX13_takenAt 117 = .ok (.aload_n 0, 1) := by decide +kernel
theorem dX13_takenAt_118 : decode cX13_takenAt 118 = .ok (.getfield 41, 3) := by decide +kernel
theorem dX13_takenAt_121 : decode cX13_takenAt 121 = .ok (.iload 7, 2) := by decide +kernel
theorem dX13_takenAt_123 : decode cX13_takenAt 123 = .ok (.iaload, 1) := by decide +kernel
theorem dX13_takenAt_124 : decode cX13_takenAt 124 = .ok (.invokestatic 178, 3) := by decide +kernel
theorem dX13_takenAt_127 : decode cX13_takenAt 127 = .ok (.iconst 1, 1) := by decide +kernel
theorem dX13_takenAt_128 : decode cX13_takenAt 128 = .ok (.iadd, 1) := by decide +kernel
theorem dX13_takenAt_129 : decode cX13_takenAt 129 = .ok (.iload 5, 2) := by decide +kernel
theorem dX13_takenAt_131 : decode cX13_takenAt 131 = .ok (.invokestatic 395, 3) := by decide +kernel
theorem dX13_takenAt_134 : decode cX13_takenAt 134 = .ok (.invokestatic 438, 3) := by decide +kernel
theorem dX13_takenAt_137 : decode cX13_takenAt 137 = .ok (.isub, 1) := by decide +kernel
theorem dX13_takenAt_138 : decode cX13_takenAt 138 = .ok (.invokestatic 178, 3) := by decide +kernel
theorem dX13_takenAt_141 : decode cX13_takenAt 141 = .ok (.istore 6, 2) := by decide +kernel
theorem dX13_takenAt_143 : decode cX13_takenAt 143 = .ok (.iload 5, 2) := by decide +kernel
theorem dX13_takenAt_145 : decode cX13_takenAt 145 = .ok (.invokestatic 360, 3) := by decide +kernel
theorem dX13_takenAt_148 : decode cX13_takenAt 148 = .ok (.ifCond .ne 6, 3) := by decide +kernel
theorem dX13_takenAt_151 : decode cX13_takenAt 151 = .ok (.iload 6, 2) := by decide +kernel
theorem dX13_takenAt_153 : decode cX13_takenAt 153 = .ok (.ireturn, 1) := by decide +kernel
theorem dX13_takenAt_154 : decode cX13_takenAt 154 = .ok (.aload_n 0, 1) := by decide +kernel
theorem dX13_takenAt_155 : decode cX13_takenAt 155 = .ok (.iload_n 1, 1) := by decide +kernel
theorem dX13_takenAt_156 : decode cX13_takenAt 156 = .ok (.iload_n 2, 1) := by decide +kernel
theorem dX13_takenAt_157 : decode cX13_takenAt 157 = .ok (.invokevirtual 432, 3) := by decide +kernel
theorem dX13_takenAt_160 : decode cX13_takenAt 160 = .ok (.aload_n 0, 1) := by decide +kernel
theorem dX13_takenAt_161 : decode cX13_takenAt 161 = .ok (.getfield 31, 3) := by decide +kernel
theorem dX13_takenAt_164 : decode cX13_takenAt 164 = .ok (.iconst 1, 1) := by decide +kernel
theorem dX13_takenAt_165 : decode cX13_takenAt 165 = .ok (.iaload, 1) := by decide +kernel
theorem dX13_takenAt_166 : decode cX13_takenAt 166 = .ok (.irem, 1) := by decide +kernel
theorem dX13_takenAt_167 : decode cX13_takenAt 167 = .ok (.istore 7, 2) := by decide +kernel
theorem dX13_takenAt_169 : decode cX13_takenAt 169 = .ok (.aload_n 0, 1) := by decide +kernel
theorem dX13_takenAt_170 : decode cX13_takenAt 170 = .ok (.getfield 47, 3) := by decide +kernel
theorem dX13_takenAt_173 : decode cX13_takenAt 173 = .ok (.iload 7, 2) := by decide +kernel
theorem dX13_takenAt_175 : decode cX13_takenAt 175 = .ok (.iaload, 1) := by decide +kernel
theorem dX13_takenAt_176 : decode cX13_takenAt 176 = .ok (.aload_n 0, 1) := by decide +kernel
theorem dX13_takenAt_177 : decode cX13_takenAt 177 = .ok (.getfield 31, 3) := by decide +kernel
theorem dX13_takenAt_180 : decode cX13_takenAt 180 = .ok (.iconst 2, 1) := by decide +kernel
theorem dX13_takenAt_181 : decode cX13_takenAt 181 = .ok (.iaload, 1) := by decide +kernel
theorem dX13_takenAt_182 : decode cX13_takenAt 182 = .ok (.iadd, 1) := by decide +kernel
theorem dX13_takenAt_183 : decode cX13_takenAt 183 = .ok (.istore 8, 2) := by decide +kernel
theorem dX13_takenAt_185 : decode cX13_takenAt 185 = .ok (.aload_n 0, 1) := by decide +kernel
theorem dX13_takenAt_186 : decode cX13_takenAt 186 = .ok (.dup, 1) := by decide +kernel
theorem dX13_takenAt_187 : decode cX13_takenAt 187 = .ok (.getfield 441, 3) := by decide +kernel
theorem dX13_takenAt_190 : decode cX13_takenAt 190 = .ok (.iconst 0, 1) := by decide +kernel
theorem dX13_takenAt_191 : decode cX13_takenAt 191 = .ok (.iload 8, 2) := by decide +kernel
theorem dX13_takenAt_193 : decode cX13_takenAt 193 = .ok (.iload 6, 2) := by decide +kernel
theorem dX13_takenAt_195 : decode cX13_takenAt 195 = .ok (.isub, 1) := by decide +kernel
theorem dX13_takenAt_196 : decode cX13_takenAt 196 = .ok (.invokestatic 178, 3) := by decide +kernel
theorem dX13_takenAt_199 : decode cX13_takenAt 199 = .ok (.iadd, 1) := by decide +kernel
theorem dX13_takenAt_200 : decode cX13_takenAt 200 = .ok (.putfield 441, 3) := by decide +kernel
theorem dX13_takenAt_203 : decode cX13_takenAt 203 = .ok (.iload 6, 2) := by decide +kernel
theorem dX13_takenAt_205 : decode cX13_takenAt 205 = .ok (.iload 8, 2) := by decide +kernel
theorem dX13_takenAt_207 : decode cX13_takenAt 207 = .ok (.invokestatic 178, 3) := by decide +kernel
theorem dX13_takenAt_210 : decode cX13_takenAt 210 = .ok (.istore 6, 2) := by decide +kernel
theorem dX13_takenAt_212 : decode cX13_takenAt 212 = .ok (.aload_n 0, 1) := by decide +kernel
theorem dX13_takenAt_213 : decode cX13_takenAt 213 = .ok (.getfield 47, 3) := by decide +kernel
theorem dX13_takenAt_216 : decode cX13_takenAt 216 = .ok (.iload 7, 2) := by decide +kernel
theorem dX13_takenAt_218 : decode cX13_takenAt 218 = .ok (.iload 6, 2) := by decide +kernel
theorem dX13_takenAt_220 : decode cX13_takenAt 220 = .ok (.iastore, 1) := by decide +kernel
theorem dX13_takenAt_221 : decode cX13_takenAt 221 = .ok (.iload 6, 2) := by decide +kernel
theorem dX13_takenAt_223 : decode cX13_takenAt 223 = .ok (.ireturn, 1) := by decide +kernel
def pX13_takenAt_b143 (g : MT) (this : Nat) (p1 : Int32) (p2 : Int32) (p3 : Int32) (p4 : Int32) (l5 : Int32) (l6 : Int32) (h : CT) : Option ((Int32) × CT) := if (pX13_isMemory l5) = 0 then some (l6, h) else bd (pX13_placeOf g h this p1 p2) fun x2 => (lt (hR h this 19) fun r4 => (nn r4 fun a4 => (tg g a4 20 (ix (gL g a4) 1 (dvI (hI h a4 (Int32.toNatClampNeg 1)) (lt (x2 - x2 / (hI h a4 (Int32.toNatClampNeg 1)) * (hI h a4 (Int32.toNatClampNeg 1))) fun x8 => (lt (hR h this 26) fun r9 => (nn r9 fun a9 => (tg g a9 20 (ix (gL g a9) x8 (lt (hR h this 19) fun r12 => (nn r12 fun a12 => (tg g a12 20 (ix (gL g a12) 2 (lt ((hI h a9 (Int32.toNatClampNeg x8)) + (hI h a12 (Int32.toNatClampNeg 2))) fun x15 => (lt (sI h this 35 ((hI h this 35) + (pJ9_max_7cf53 0 (x15 - l6)))) fun h16 => (lt (pJ9_max_7cf53 l6 x15) fun x17 => (lt (hR h16 this 26) fun r18 => (nn r18 fun a18 => (tg g a18 20 (ix (gL g a18) x8 (lt (sI h16 a18 (Int32.toNatClampNeg x8) x17) fun h21 => (some (x17, h21))))))))))))))))))))))))
set_option maxRecDepth 10000 in
set_option maxHeartbeats 4000000 in
theorem pX13_takenAt_b143_ok {X : Cx} {G : Gx} {dk : Nat} {g : MT} {r0 : Int32} {h0 : CT} {this : Nat} {p1 : Int32} {p2 : Int32} {p3 : Int32} {p4 : Int32} (Z : Zx X G cX13_takenAt RX13 9 dk (some .int) (some (.int r0)) g h0) (hK : 3 ≤ dk) (t0 : gT g this = 12) (l5 : Int32) (l6 : Int32) (h : CT) (hf : pX13_takenAt_b143 g this p1 p2 p3 p4 l5 l6 h = some (r0, h0)) : J X g h 143 [(0, va_rf (some this)), (1, .int p1), (2, .int p2), (5, .int l5), (6, .int l6)] [] := by
  unfold pX13_takenAt_b143 at hf
  refine J_iload Z.1 3 dX13_takenAt_143 rfl ?_
  refine J_callS (as := [.int l5]) (rest := []) (sy := [.int (pX13_isMemory l5)]) Z.1 dX13_takenAt_145 cw_X13_360 (pX13_isMemory_ok G (dk - 1) (by omega) g h l5) (zG Z) rfl (by decide) (zF Z (by omega)) (zO Z (by omega) (by decide)) (zM _) Z.2.1 Z.2.1 rfl rfl ?_
  refine J_if_ne Z.1 154 dX13_takenAt_148 (by decide) (fun c1 => ?_) (fun c1 => ?_)
  · rw [if_neg c1] at hf
    refine J_aload_n Z.1 0 dX13_takenAt_154 rfl rfl ?_
    refine J_iload_n Z.1 1 dX13_takenAt_155 rfl rfl ?_
    refine J_iload_n Z.1 2 dX13_takenAt_156 rfl rfl ?_
    replace hf := bd_i hf
    obtain ⟨x2, q3, hf⟩ := hf
    refine J_callV (ci := 11) (as := [.int p1, .int p2]) (rest := []) (sy := [.int x2]) Z.1 dX13_takenAt_157 cw_X13_432 (pX13_placeOf_ok G (dk - 1) (by omega) q3) rfl rfl t0 (zG Z) rfl (by decide) (zF Z (by omega)) (zO Z (by omega) (by decide)) (zM _) Z.2.1 Z.2.1 rfl rfl ?_
    refine J_aload_n Z.1 0 dX13_takenAt_160 rfl rfl ?_
    refine J_get (v := va_rf (hR h this 19)) Z.1 dX13_takenAt_161 fl_X13_31 t0 rfl ?_
    refine J_tr (fun r4 er4 => ?_)
    replace hf := lt_i hf r4 er4
    refine J_iconst Z.1 (v := 1) (by decide) dX13_takenAt_164 ?_
    replace hf := nn_i hf
    obtain ⟨a4, rfl, hf⟩ := hf
    replace hf := tg_i hf
    obtain ⟨t5, hf⟩ := hf
    replace hf := ix_i hf
    obtain ⟨i6, hf⟩ := hf
    refine J_iaload Z.1 dX13_takenAt_165 t5 i6 ?_
    replace hf := dvI_i hf
    obtain ⟨z7, hf⟩ := hf
    refine J_irem Z.1 z7 dX13_takenAt_166 ?_
    refine J_ti (fun x8 ex8 => ?_)
    replace hf := lt_i hf x8 ex8
    refine J_istore Z.1 (lv2 := [(7, .int x8), (0, va_rf (some this)), (1, .int p1), (2, .int p2), (5, .int l5), (6, .int l6)]) dX13_takenAt_167 (zL Z (by decide)) rfl ?_
    refine J_aload_n Z.1 1 dX13_takenAt_169 rfl rfl ?_
    refine J_get (v := va_rf (hR h this 26)) Z.1 dX13_takenAt_170 fl_X13_47 t0 rfl ?_
    refine J_tr (fun r9 er9 => ?_)
    replace hf := lt_i hf r9 er9
    refine J_iload Z.1 0 dX13_takenAt_173 rfl ?_
    replace hf := nn_i hf
    obtain ⟨a9, rfl, hf⟩ := hf
    replace hf := tg_i hf
    obtain ⟨t10, hf⟩ := hf
    replace hf := ix_i hf
    obtain ⟨i11, hf⟩ := hf
    refine J_iaload Z.1 dX13_takenAt_175 t10 i11 ?_
    refine J_aload_n Z.1 1 dX13_takenAt_176 rfl rfl ?_
    refine J_get (v := va_rf (hR h this 19)) Z.1 dX13_takenAt_177 fl_X13_31 t0 rfl ?_
    refine J_tr (fun r12 er12 => ?_)
    replace hf := lt_i hf r12 er12
    refine J_iconst Z.1 (v := 2) (by decide) dX13_takenAt_180 ?_
    replace hf := nn_i hf
    obtain ⟨a12, rfl, hf⟩ := hf
    replace hf := tg_i hf
    obtain ⟨t13, hf⟩ := hf
    replace hf := ix_i hf
    obtain ⟨i14, hf⟩ := hf
    refine J_iaload Z.1 dX13_takenAt_181 t13 i14 ?_
    refine J_iadd Z.1 dX13_takenAt_182 ?_
    refine J_ti (fun x15 ex15 => ?_)
    replace hf := lt_i hf x15 ex15
    refine J_istore Z.1 (lv2 := [(8, .int x15), (7, .int x8), (0, va_rf (some this)), (1, .int p1), (2, .int p2), (5, .int l5), (6, .int l6)]) dX13_takenAt_183 (zL Z (by decide)) rfl ?_
    refine J_aload_n Z.1 2 dX13_takenAt_185 rfl rfl ?_
    refine J_dup Z.1 dX13_takenAt_186 rfl ?_
    refine J_get (v := .int (hI h this 35)) Z.1 dX13_takenAt_187 fl_X13_441 t0 rfl ?_
    refine J_iconst Z.1 (v := 0) (by decide) dX13_takenAt_190 ?_
    refine J_iload Z.1 0 dX13_takenAt_191 rfl ?_
    refine J_iload Z.1 6 dX13_takenAt_193 rfl ?_
    refine J_isub Z.1 dX13_takenAt_195 ?_
    refine J_callS (as := [.int 0, .int (x15 - l6)]) (rest := [.int (hI h this 35), va_rf (some this)]) (sy := [.int (pJ9_max_7cf53 0 (x15 - l6)), .int (hI h this 35), va_rf (some this)]) Z.1 dX13_takenAt_196 cw_X13_178 (pJ9_max_7cf53_ok G (dk - 1) (by omega) g h 0 (x15 - l6)) (zG Z) rfl (by simp [cat_i, cat_l, cat_d, cat_rf]) (zF Z (by omega)) (zO Z (by omega) (by decide)) (zM _) Z.2.1 Z.2.1 rfl rfl ?_
    refine J_iadd Z.1 dX13_takenAt_199 ?_
    refine J_putI Z.1 dX13_takenAt_200 fl_X13_441 (fun q => by cases q) t0 rfl rfl (congrArg Value.int (hI_s _ _ _ _)) ?_
    refine J_th (fun h16 eh16 => ?_)
    replace hf := lt_i hf h16 eh16
    refine J_iload Z.1 6 dX13_takenAt_203 rfl ?_
    refine J_iload Z.1 0 dX13_takenAt_205 rfl ?_
    refine J_callS (as := [.int l6, .int x15]) (rest := []) (sy := [.int (pJ9_max_7cf53 l6 x15)]) Z.1 dX13_takenAt_207 cw_X13_178 (pJ9_max_7cf53_ok G (dk - 1) (by omega) g h16 l6 x15) (zG Z) rfl (by decide) (zF Z (by omega)) (zO Z (by omega) (by decide)) (zM _) Z.2.1 Z.2.1 rfl rfl ?_
    refine J_ti (fun x17 ex17 => ?_)
    replace hf := lt_i hf x17 ex17
    refine J_istore Z.1 (lv2 := [(6, .int x17), (8, .int x15), (7, .int x8), (0, va_rf (some this)), (1, .int p1), (2, .int p2), (5, .int l5)]) dX13_takenAt_210 (zL Z (by decide)) rfl ?_
    refine J_aload_n Z.1 3 dX13_takenAt_212 rfl rfl ?_
    refine J_get (v := va_rf (hR h16 this 26)) Z.1 dX13_takenAt_213 fl_X13_47 t0 rfl ?_
    refine J_tr (fun r18 er18 => ?_)
    replace hf := lt_i hf r18 er18
    refine J_iload Z.1 2 dX13_takenAt_216 rfl ?_
    refine J_iload Z.1 0 dX13_takenAt_218 rfl ?_
    replace hf := nn_i hf
    obtain ⟨a18, rfl, hf⟩ := hf
    replace hf := tg_i hf
    obtain ⟨t19, hf⟩ := hf
    replace hf := ix_i hf
    obtain ⟨i20, hf⟩ := hf
    refine J_iastore Z.1 dX13_takenAt_220 t19 i20 ?_
    refine J_th (fun h21 eh21 => ?_)
    replace hf := lt_i hf h21 eh21
    refine J_iload Z.1 0 dX13_takenAt_221 rfl ?_
    cases hf
    exact J_iret Z.1 Z.2.2.2.2.2 dX13_takenAt_223
  · rw [if_pos c1] at hf
    refine J_iload Z.1 4 dX13_takenAt_151 rfl ?_
    cases hf
    exact J_iret Z.1 Z.2.2.2.2.2 dX13_takenAt_153
def pX13_takenAt_b87 (g : MT) (this : Nat) (p1 : Int32) (p2 : Int32) (p3 : Int32) (p4 : Int32) (l5 : Int32) (l6 : Int32) (h : CT) : Option ((Int32) × CT) := if (pX13_writesD l5) = 0 then pX13_takenAt_b143 g this p1 p2 p3 p4  l5 l6 h else bd (pX13_at g h this p1 1) fun x2 => (lt ((16 * x2) + p2) fun x4 => (lt (hR h this 23) fun r5 => (nn r5 fun a5 => (tg g a5 20 (ix (gL g a5) x4 (lt (hR h this 24) fun r8 => (nn r8 fun a8 => (tg g a8 20 (ix (gL g a8) x4 (lt (pJ9_max_7cf53 l6 (((pJ9_max_7cf53 (hI h a5 (Int32.toNatClampNeg x4)) (hI h a8 (Int32.toNatClampNeg x4))) + 1) - (pX13_latencyOf (pX13_unitOf l5)))) fun x11 => (pX13_takenAt_b143 g this p1 p2 p3 p4  l5 x11 h)))))))))))
set_option maxRecDepth 10000 in
set_option maxHeartbeats 4000000 in
theorem pX13_takenAt_b87_ok {X : Cx} {G : Gx} {dk : Nat} {g : MT} {r0 : Int32} {h0 : CT} {this : Nat} {p1 : Int32} {p2 : Int32} {p3 : Int32} {p4 : Int32} (Z : Zx X G cX13_takenAt RX13 9 dk (some .int) (some (.int r0)) g h0) (hK : 3 ≤ dk) (t0 : gT g this = 12) (l5 : Int32) (l6 : Int32) (h : CT) (hf : pX13_takenAt_b87 g this p1 p2 p3 p4 l5 l6 h = some (r0, h0)) : J X g h 87 [(0, va_rf (some this)), (1, .int p1), (2, .int p2), (5, .int l5), (6, .int l6)] [] := by
  unfold pX13_takenAt_b87 at hf
  refine J_iload Z.1 3 dX13_takenAt_87 rfl ?_
  refine J_callS (as := [.int l5]) (rest := []) (sy := [.int (pX13_writesD l5)]) Z.1 dX13_takenAt_89 cw_X13_363 (pX13_writesD_ok G (dk - 1) (by omega) g h l5) (zG Z) rfl (by decide) (zF Z (by omega)) (zO Z (by omega) (by decide)) (zM _) Z.2.1 Z.2.1 rfl rfl ?_
  refine J_if_eq Z.1 143 dX13_takenAt_92 (by decide) (fun c1 => ?_) (fun c1 => ?_)
  · rw [if_pos c1] at hf
    exact pX13_takenAt_b143_ok Z hK t0  _ _ _ hf
  · rw [if_neg c1] at hf
    refine J_bipush Z.1 (v := 16) (by decide) dX13_takenAt_95 ?_
    refine J_aload_n Z.1 0 dX13_takenAt_97 rfl rfl ?_
    refine J_iload_n Z.1 1 dX13_takenAt_98 rfl rfl ?_
    refine J_iconst Z.1 (v := 1) (by decide) dX13_takenAt_99 ?_
    replace hf := bd_i hf
    obtain ⟨x2, q3, hf⟩ := hf
    refine J_callV (ci := 11) (as := [.int p1, .int 1]) (rest := [.int 16]) (sy := [.int x2, .int 16]) Z.1 dX13_takenAt_100 cw_X13_381 (pX13_at_ok G (dk - 1) (by omega) q3) rfl rfl t0 (zG Z) rfl (by simp [cat_i, cat_l, cat_d, cat_rf]) (zF Z (by omega)) (zO Z (by omega) (by decide)) (zM _) Z.2.1 Z.2.1 rfl rfl ?_
    refine J_imul Z.1 dX13_takenAt_103 ?_
    refine J_iload_n Z.1 2 dX13_takenAt_104 rfl rfl ?_
    refine J_iadd Z.1 dX13_takenAt_105 ?_
    refine J_ti (fun x4 ex4 => ?_)
    replace hf := lt_i hf x4 ex4
    refine J_istore Z.1 (lv2 := [(7, .int x4), (0, va_rf (some this)), (1, .int p1), (2, .int p2), (5, .int l5), (6, .int l6)]) dX13_takenAt_106 (zL Z (by decide)) rfl ?_
    refine J_iload Z.1 5 dX13_takenAt_108 rfl ?_
    refine J_aload_n Z.1 1 dX13_takenAt_110 rfl rfl ?_
    refine J_get (v := va_rf (hR h this 23)) Z.1 dX13_takenAt_111 fl_X13_38 t0 rfl ?_
    refine J_tr (fun r5 er5 => ?_)
    replace hf := lt_i hf r5 er5
    refine J_iload Z.1 0 dX13_takenAt_114 rfl ?_
    replace hf := nn_i hf
    obtain ⟨a5, rfl, hf⟩ := hf
    replace hf := tg_i hf
    obtain ⟨t6, hf⟩ := hf
    replace hf := ix_i hf
    obtain ⟨i7, hf⟩ := hf
    refine J_iaload Z.1 dX13_takenAt_116 t6 i7 ?_
    refine J_aload_n Z.1 1 dX13_takenAt_117 rfl rfl ?_
    refine J_get (v := va_rf (hR h this 24)) Z.1 dX13_takenAt_118 fl_X13_41 t0 rfl ?_
    refine J_tr (fun r8 er8 => ?_)
    replace hf := lt_i hf r8 er8
    refine J_iload Z.1 0 dX13_takenAt_121 rfl ?_
    replace hf := nn_i hf
    obtain ⟨a8, rfl, hf⟩ := hf
    replace hf := tg_i hf
    obtain ⟨t9, hf⟩ := hf
    replace hf := ix_i hf
    obtain ⟨i10, hf⟩ := hf
    refine J_iaload Z.1 dX13_takenAt_123 t9 i10 ?_
    refine J_callS (as := [.int (hI h a5 (Int32.toNatClampNeg x4)), .int (hI h a8 (Int32.toNatClampNeg x4))]) (rest := [.int l6]) (sy := [.int (pJ9_max_7cf53 (hI h a5 (Int32.toNatClampNeg x4)) (hI h a8 (Int32.toNatClampNeg x4))), .int l6]) Z.1 dX13_takenAt_124 cw_X13_178 (pJ9_max_7cf53_ok G (dk - 1) (by omega) g h (hI h a5 (Int32.toNatClampNeg x4)) (hI h a8 (Int32.toNatClampNeg x4))) (zG Z) rfl (by simp [cat_i, cat_l, cat_d, cat_rf]) (zF Z (by omega)) (zO Z (by omega) (by decide)) (zM _) Z.2.1 Z.2.1 rfl rfl ?_
    refine J_iconst Z.1 (v := 1) (by decide) dX13_takenAt_127 ?_
    refine J_iadd Z.1 dX13_takenAt_128 ?_
    refine J_iload Z.1 4 dX13_takenAt_129 rfl ?_
    refine J_callS (as := [.int l5]) (rest := [.int ((pJ9_max_7cf53 (hI h a5 (Int32.toNatClampNeg x4)) (hI h a8 (Int32.toNatClampNeg x4))) + 1), .int l6]) (sy := [.int (pX13_unitOf l5), .int ((pJ9_max_7cf53 (hI h a5 (Int32.toNatClampNeg x4)) (hI h a8 (Int32.toNatClampNeg x4))) + 1), .int l6]) Z.1 dX13_takenAt_131 cw_X13_395 (pX13_unitOf_ok G (dk - 1) (by omega) g h l5) (zG Z) rfl (by simp [cat_i, cat_l, cat_d, cat_rf]) (zF Z (by omega)) (zO Z (by omega) (by decide)) (zM _) Z.2.1 Z.2.1 rfl rfl ?_
    refine J_callS (as := [.int (pX13_unitOf l5)]) (rest := [.int ((pJ9_max_7cf53 (hI h a5 (Int32.toNatClampNeg x4)) (hI h a8 (Int32.toNatClampNeg x4))) + 1), .int l6]) (sy := [.int (pX13_latencyOf (pX13_unitOf l5)), .int ((pJ9_max_7cf53 (hI h a5 (Int32.toNatClampNeg x4)) (hI h a8 (Int32.toNatClampNeg x4))) + 1), .int l6]) Z.1 dX13_takenAt_134 cw_X13_438 (pX13_latencyOf_ok G (dk - 1) (by omega) g h (pX13_unitOf l5)) (zG Z) rfl (by simp [cat_i, cat_l, cat_d, cat_rf]) (zF Z (by omega)) (zO Z (by omega) (by decide)) (zM _) Z.2.1 Z.2.1 rfl rfl ?_
    refine J_isub Z.1 dX13_takenAt_137 ?_
    refine J_callS (as := [.int l6, .int (((pJ9_max_7cf53 (hI h a5 (Int32.toNatClampNeg x4)) (hI h a8 (Int32.toNatClampNeg x4))) + 1) - (pX13_latencyOf (pX13_unitOf l5)))]) (rest := []) (sy := [.int (pJ9_max_7cf53 l6 (((pJ9_max_7cf53 (hI h a5 (Int32.toNatClampNeg x4)) (hI h a8 (Int32.toNatClampNeg x4))) + 1) - (pX13_latencyOf (pX13_unitOf l5))))]) Z.1 dX13_takenAt_138 cw_X13_178 (pJ9_max_7cf53_ok G (dk - 1) (by omega) g h l6 (((pJ9_max_7cf53 (hI h a5 (Int32.toNatClampNeg x4)) (hI h a8 (Int32.toNatClampNeg x4))) + 1) - (pX13_latencyOf (pX13_unitOf l5)))) (zG Z) rfl (by decide) (zF Z (by omega)) (zO Z (by omega) (by decide)) (zM _) Z.2.1 Z.2.1 rfl rfl ?_
    refine J_ti (fun x11 ex11 => ?_)
    replace hf := lt_i hf x11 ex11
    refine J_istore Z.1 (lv2 := [(6, .int x11), (7, .int x4), (0, va_rf (some this)), (1, .int p1), (2, .int p2), (5, .int l5)]) dX13_takenAt_141 (zL Z (by decide)) rfl ?_
    refine J_lv [2, 3, 4, 5, 0] rfl ?_
    exact pX13_takenAt_b143_ok Z hK t0  _ _ _ hf
def pX13_takenAt_b64 (g : MT) (this : Nat) (p1 : Int32) (p2 : Int32) (p3 : Int32) (p4 : Int32) (l5 : Int32) (l6 : Int32) (h : CT) : Option ((Int32) × CT) := if (pX13_readsD l5) = 0 then pX13_takenAt_b87 g this p1 p2 p3 p4  l5 l6 h else bd (pX13_at g h this p1 1) fun x2 => (bd (pX13_waitsFor g h this x2 p2 l6) fun x4 => (pX13_takenAt_b87 g this p1 p2 p3 p4  l5 x4 h))
set_option maxRecDepth 10000 in
set_option maxHeartbeats 4000000 in
theorem pX13_takenAt_b64_ok {X : Cx} {G : Gx} {dk : Nat} {g : MT} {r0 : Int32} {h0 : CT} {this : Nat} {p1 : Int32} {p2 : Int32} {p3 : Int32} {p4 : Int32} (Z : Zx X G cX13_takenAt RX13 9 dk (some .int) (some (.int r0)) g h0) (hK : 3 ≤ dk) (t0 : gT g this = 12) (l5 : Int32) (l6 : Int32) (h : CT) (hf : pX13_takenAt_b64 g this p1 p2 p3 p4 l5 l6 h = some (r0, h0)) : J X g h 64 [(0, va_rf (some this)), (1, .int p1), (2, .int p2), (5, .int l5), (6, .int l6)] [] := by
  unfold pX13_takenAt_b64 at hf
  refine J_iload Z.1 3 dX13_takenAt_64 rfl ?_
  refine J_callS (as := [.int l5]) (rest := []) (sy := [.int (pX13_readsD l5)]) Z.1 dX13_takenAt_66 cw_X13_392 (pX13_readsD_ok G (dk - 1) (by omega) g h l5) (zG Z) rfl (by decide) (zF Z (by omega)) (zO Z (by omega) (by decide)) (zM _) Z.2.1 Z.2.1 rfl rfl ?_
  refine J_if_eq Z.1 87 dX13_takenAt_69 (by decide) (fun c1 => ?_) (fun c1 => ?_)
  · rw [if_pos c1] at hf
    exact pX13_takenAt_b87_ok Z hK t0  _ _ _ hf
  · rw [if_neg c1] at hf
    refine J_aload_n Z.1 0 dX13_takenAt_72 rfl rfl ?_
    refine J_aload_n Z.1 0 dX13_takenAt_73 rfl rfl ?_
    refine J_iload_n Z.1 1 dX13_takenAt_74 rfl rfl ?_
    refine J_iconst Z.1 (v := 1) (by decide) dX13_takenAt_75 ?_
    replace hf := bd_i hf
    obtain ⟨x2, q3, hf⟩ := hf
    refine J_callV (ci := 11) (as := [.int p1, .int 1]) (rest := [va_rf (some this)]) (sy := [.int x2, va_rf (some this)]) Z.1 dX13_takenAt_76 cw_X13_381 (pX13_at_ok G (dk - 1) (by omega) q3) rfl rfl t0 (zG Z) rfl (by simp [cat_i, cat_l, cat_d, cat_rf]) (zF Z (by omega)) (zO Z (by omega) (by decide)) (zM _) Z.2.1 Z.2.1 rfl rfl ?_
    refine J_iload_n Z.1 2 dX13_takenAt_79 rfl rfl ?_
    refine J_iload Z.1 4 dX13_takenAt_80 rfl ?_
    replace hf := bd_i hf
    obtain ⟨x4, q5, hf⟩ := hf
    refine J_callV (ci := 11) (as := [.int x2, .int p2, .int l6]) (rest := []) (sy := [.int x4]) Z.1 dX13_takenAt_82 cw_X13_435 (pX13_waitsFor_ok G (dk - 1) (by omega) q5) rfl rfl t0 (zG Z) rfl (by decide) (zF Z (by omega)) (zO Z (by omega) (by decide)) (zM _) Z.2.1 Z.2.1 rfl rfl ?_
    refine J_istore Z.1 (lv2 := [(6, .int x4), (0, va_rf (some this)), (1, .int p1), (2, .int p2), (5, .int l5)]) dX13_takenAt_85 (zL Z (by decide)) rfl ?_
    refine J_lv [1, 2, 3, 4, 0] rfl ?_
    exact pX13_takenAt_b87_ok Z hK t0  _ _ _ hf
def pX13_takenAt_b41 (g : MT) (this : Nat) (p1 : Int32) (p2 : Int32) (p3 : Int32) (p4 : Int32) (l5 : Int32) (l6 : Int32) (h : CT) : Option ((Int32) × CT) := if (pX13_readsB l5) = 0 then pX13_takenAt_b64 g this p1 p2 p3 p4  l5 l6 h else bd (pX13_at g h this p1 3) fun x2 => (bd (pX13_waitsFor g h this x2 p2 l6) fun x4 => (pX13_takenAt_b64 g this p1 p2 p3 p4  l5 x4 h))
set_option maxRecDepth 10000 in
set_option maxHeartbeats 4000000 in
theorem pX13_takenAt_b41_ok {X : Cx} {G : Gx} {dk : Nat} {g : MT} {r0 : Int32} {h0 : CT} {this : Nat} {p1 : Int32} {p2 : Int32} {p3 : Int32} {p4 : Int32} (Z : Zx X G cX13_takenAt RX13 9 dk (some .int) (some (.int r0)) g h0) (hK : 3 ≤ dk) (t0 : gT g this = 12) (l5 : Int32) (l6 : Int32) (h : CT) (hf : pX13_takenAt_b41 g this p1 p2 p3 p4 l5 l6 h = some (r0, h0)) : J X g h 41 [(0, va_rf (some this)), (1, .int p1), (2, .int p2), (5, .int l5), (6, .int l6)] [] := by
  unfold pX13_takenAt_b41 at hf
  refine J_iload Z.1 3 dX13_takenAt_41 rfl ?_
  refine J_callS (as := [.int l5]) (rest := []) (sy := [.int (pX13_readsB l5)]) Z.1 dX13_takenAt_43 cw_X13_389 (pX13_readsB_ok G (dk - 1) (by omega) g h l5) (zG Z) rfl (by decide) (zF Z (by omega)) (zO Z (by omega) (by decide)) (zM _) Z.2.1 Z.2.1 rfl rfl ?_
  refine J_if_eq Z.1 64 dX13_takenAt_46 (by decide) (fun c1 => ?_) (fun c1 => ?_)
  · rw [if_pos c1] at hf
    exact pX13_takenAt_b64_ok Z hK t0  _ _ _ hf
  · rw [if_neg c1] at hf
    refine J_aload_n Z.1 0 dX13_takenAt_49 rfl rfl ?_
    refine J_aload_n Z.1 0 dX13_takenAt_50 rfl rfl ?_
    refine J_iload_n Z.1 1 dX13_takenAt_51 rfl rfl ?_
    refine J_iconst Z.1 (v := 3) (by decide) dX13_takenAt_52 ?_
    replace hf := bd_i hf
    obtain ⟨x2, q3, hf⟩ := hf
    refine J_callV (ci := 11) (as := [.int p1, .int 3]) (rest := [va_rf (some this)]) (sy := [.int x2, va_rf (some this)]) Z.1 dX13_takenAt_53 cw_X13_381 (pX13_at_ok G (dk - 1) (by omega) q3) rfl rfl t0 (zG Z) rfl (by simp [cat_i, cat_l, cat_d, cat_rf]) (zF Z (by omega)) (zO Z (by omega) (by decide)) (zM _) Z.2.1 Z.2.1 rfl rfl ?_
    refine J_iload_n Z.1 2 dX13_takenAt_56 rfl rfl ?_
    refine J_iload Z.1 4 dX13_takenAt_57 rfl ?_
    replace hf := bd_i hf
    obtain ⟨x4, q5, hf⟩ := hf
    refine J_callV (ci := 11) (as := [.int x2, .int p2, .int l6]) (rest := []) (sy := [.int x4]) Z.1 dX13_takenAt_59 cw_X13_435 (pX13_waitsFor_ok G (dk - 1) (by omega) q5) rfl rfl t0 (zG Z) rfl (by decide) (zF Z (by omega)) (zO Z (by omega) (by decide)) (zM _) Z.2.1 Z.2.1 rfl rfl ?_
    refine J_istore Z.1 (lv2 := [(6, .int x4), (0, va_rf (some this)), (1, .int p1), (2, .int p2), (5, .int l5)]) dX13_takenAt_62 (zL Z (by decide)) rfl ?_
    refine J_lv [1, 2, 3, 4, 0] rfl ?_
    exact pX13_takenAt_b64_ok Z hK t0  _ _ _ hf
def pX13_takenAt (g : MT) (h : CT) (this : Nat) (p1 : Int32) (p2 : Int32) (p3 : Int32) (p4 : Int32) : Option ((Int32) × CT) := tg g this 12 (bd (pX13_at g h this p1 0) fun x1 => (lt (pJ9_max_7cf53 p3 (p4 + 1)) fun x3 => (if (pX13_readsA x1) = 0 then pX13_takenAt_b41 g this p1 p2 p3 p4  x1 x3 h else bd (pX13_at g h this p1 2) fun x5 => (bd (pX13_waitsFor g h this x5 p2 x3) fun x7 => (pX13_takenAt_b41 g this p1 p2 p3 p4  x1 x7 h)))))
set_option maxRecDepth 10000 in
set_option maxHeartbeats 4000000 in
theorem pX13_takenAt_ok (G : Gx) (dk : Nat) (hK : 3 ≤ dk) {g : MT} {h h0 : CT} {this : Nat} {p1 : Int32} {p2 : Int32} {p3 : Int32} {p4 : Int32} {r0 : Int32} (hf : pX13_takenAt g h this p1 p2 p3 p4 = some (r0, h0)) : Ctr G dk yX13_takenAt cX13_takenAt 9 (some .int) [va_rf (some this), .int p1, .int p2, .int p3, .int p4] g h (some (.int r0)) g h0 := by
  refine Ctr.ofZ (lv := [(0, va_rf (some this)), (1, .int p1), (2, .int p2), (3, .int p3), (4, .int p4)]) (by decide +kernel) (by simp [cat_i, cat_l, cat_d, cat_rf]) rfl fun X Z => ?_
  unfold pX13_takenAt at hf
  replace hf := tg_i hf
  obtain ⟨t0, hf⟩ := hf
  refine J_aload_n Z.1 0 dX13_takenAt_0 rfl rfl ?_
  refine J_iload_n Z.1 1 dX13_takenAt_1 rfl rfl ?_
  refine J_iconst Z.1 (v := 0) (by decide) dX13_takenAt_2 ?_
  replace hf := bd_i hf
  obtain ⟨x1, q2, hf⟩ := hf
  refine J_callV (ci := 11) (as := [.int p1, .int 0]) (rest := []) (sy := [.int x1]) Z.1 dX13_takenAt_3 cw_X13_381 (pX13_at_ok G (dk - 1) (by omega) q2) rfl rfl t0 (zG Z) rfl (by decide) (zF Z (by omega)) (zO Z (by omega) (by decide)) (zM _) Z.2.1 Z.2.1 rfl rfl ?_
  refine J_istore Z.1 (lv2 := [(5, .int x1), (0, va_rf (some this)), (1, .int p1), (2, .int p2), (3, .int p3), (4, .int p4)]) dX13_takenAt_6 (zL Z (by decide)) rfl ?_
  refine J_iload_n Z.1 4 dX13_takenAt_8 rfl rfl ?_
  refine J_iload Z.1 5 dX13_takenAt_9 rfl ?_
  refine J_iconst Z.1 (v := 1) (by decide) dX13_takenAt_11 ?_
  refine J_iadd Z.1 dX13_takenAt_12 ?_
  refine J_callS (as := [.int p3, .int (p4 + 1)]) (rest := []) (sy := [.int (pJ9_max_7cf53 p3 (p4 + 1))]) Z.1 dX13_takenAt_13 cw_X13_178 (pJ9_max_7cf53_ok G (dk - 1) (by omega) g h p3 (p4 + 1)) (zG Z) rfl (by decide) (zF Z (by omega)) (zO Z (by omega) (by decide)) (zM _) Z.2.1 Z.2.1 rfl rfl ?_
  refine J_ti (fun x3 ex3 => ?_)
  replace hf := lt_i hf x3 ex3
  refine J_istore Z.1 (lv2 := [(6, .int x3), (5, .int x1), (0, va_rf (some this)), (1, .int p1), (2, .int p2), (3, .int p3), (4, .int p4)]) dX13_takenAt_16 (zL Z (by decide)) rfl ?_
  refine J_iload Z.1 1 dX13_takenAt_18 rfl ?_
  refine J_callS (as := [.int x1]) (rest := []) (sy := [.int (pX13_readsA x1)]) Z.1 dX13_takenAt_20 cw_X13_383 (pX13_readsA_ok G (dk - 1) (by omega) g h x1) (zG Z) rfl (by decide) (zF Z (by omega)) (zO Z (by omega) (by decide)) (zM _) Z.2.1 Z.2.1 rfl rfl ?_
  refine J_if_eq Z.1 41 dX13_takenAt_23 (by decide) (fun c4 => ?_) (fun c4 => ?_)
  · rw [if_pos c4] at hf
    refine J_lv [2, 3, 4, 1, 0] rfl ?_
    exact pX13_takenAt_b41_ok Z hK t0  _ _ _ hf
  · rw [if_neg c4] at hf
    refine J_aload_n Z.1 2 dX13_takenAt_26 rfl rfl ?_
    refine J_aload_n Z.1 2 dX13_takenAt_27 rfl rfl ?_
    refine J_iload_n Z.1 3 dX13_takenAt_28 rfl rfl ?_
    refine J_iconst Z.1 (v := 2) (by decide) dX13_takenAt_29 ?_
    replace hf := bd_i hf
    obtain ⟨x5, q6, hf⟩ := hf
    refine J_callV (ci := 11) (as := [.int p1, .int 2]) (rest := [va_rf (some this)]) (sy := [.int x5, va_rf (some this)]) Z.1 dX13_takenAt_30 cw_X13_381 (pX13_at_ok G (dk - 1) (by omega) q6) rfl rfl t0 (zG Z) rfl (by simp [cat_i, cat_l, cat_d, cat_rf]) (zF Z (by omega)) (zO Z (by omega) (by decide)) (zM _) Z.2.1 Z.2.1 rfl rfl ?_
    refine J_iload_n Z.1 4 dX13_takenAt_33 rfl rfl ?_
    refine J_iload Z.1 0 dX13_takenAt_34 rfl ?_
    replace hf := bd_i hf
    obtain ⟨x7, q8, hf⟩ := hf
    refine J_callV (ci := 11) (as := [.int x5, .int p2, .int x3]) (rest := []) (sy := [.int x7]) Z.1 dX13_takenAt_36 cw_X13_435 (pX13_waitsFor_ok G (dk - 1) (by omega) q8) rfl rfl t0 (zG Z) rfl (by decide) (zF Z (by omega)) (zO Z (by omega) (by decide)) (zM _) Z.2.1 Z.2.1 rfl rfl ?_
    refine J_istore Z.1 (lv2 := [(6, .int x7), (5, .int x1), (0, va_rf (some this)), (1, .int p1), (2, .int p2), (3, .int p3), (4, .int p4)]) dX13_takenAt_39 (zL Z (by decide)) rfl ?_
    refine J_lv [2, 3, 4, 1, 0] rfl ?_
    exact pX13_takenAt_b41_ok Z hK t0  _ _ _ hf
theorem dX13_reads_0 : decode cX13_reads 0 = .ok (.aload_n 0, 1) := by decide +kernel
theorem dX13_reads_1 : decode cX13_reads 1 = .ok (.getfield 41, 3) := by decide +kernel
theorem dX13_reads_4 : decode cX13_reads 4 = .ok (.bipush 16, 2) := by decide +kernel
theorem dX13_reads_6 : decode cX13_reads 6 = .ok (.iload_n 1, 1) := by decide +kernel
theorem dX13_reads_7 : decode cX13_reads 7 = .ok (.imul, 1) := by decide +kernel
theorem dX13_reads_8 : decode cX13_reads 8 = .ok (.iload_n 2, 1) := by decide +kernel
theorem dX13_reads_9 : decode cX13_reads 9 = .ok (.iadd, 1) := by decide +kernel
theorem dX13_reads_10 : decode cX13_reads 10 = .ok (.aload_n 0, 1) := by decide +kernel
theorem dX13_reads_11 : decode cX13_reads 11 = .ok (.getfield 41, 3) := by decide +kernel
theorem dX13_reads_14 : decode cX13_reads 14 = .ok (.bipush 16, 2) := by decide +kernel
theorem dX13_reads_16 : decode cX13_reads 16 = .ok (.iload_n 1, 1) := by decide +kernel
theorem dX13_reads_17 : decode cX13_reads 17 = .ok (.imul, 1) := by decide +kernel
theorem dX13_reads_18 : decode cX13_reads 18 = .ok (.iload_n 2, 1) := by decide +kernel
theorem dX13_reads_19 : decode cX13_reads 19 = .ok (.iadd, 1) := by decide +kernel
theorem dX13_reads_20 : decode cX13_reads 20 = .ok (.iaload, 1) := by decide +kernel
theorem dX13_reads_21 : decode cX13_reads 21 = .ok (.iload_n 3, 1) := by decide +kernel
theorem dX13_reads_22 : decode cX13_reads 22 = .ok (.invokestatic 178, 3) := by decide +kernel
theorem dX13_reads_25 : decode cX13_reads 25 = .ok (.iastore, 1) := by decide +kernel
theorem dX13_reads_26 : decode cX13_reads 26 = .ok (.return_, 1) := by decide +kernel
def pX13_reads (g : MT) (h : CT) (this : Nat) (p1 : Int32) (p2 : Int32) (p3 : Int32) : Option CT := tg g this 12 (lt (hR h this 24) fun r1 => (lt (hR h this 24) fun r2 => (nn r2 fun a2 => (tg g a2 20 (ix (gL g a2) ((16 * p1) + p2) (nn r1 fun a1 => (tg g a1 20 (ix (gL g a1) ((16 * p1) + p2) (lt (sI h a1 (Int32.toNatClampNeg ((16 * p1) + p2)) (pJ9_max_7cf53 (hI h a2 (Int32.toNatClampNeg ((16 * p1) + p2))) p3)) fun h7 => (some h7))))))))))
set_option maxRecDepth 10000 in
set_option maxHeartbeats 4000000 in
theorem pX13_reads_ok (G : Gx) (dk : Nat) (hK : 1 ≤ dk) {g : MT} {h h0 : CT} {this : Nat} {p1 : Int32} {p2 : Int32} {p3 : Int32} (hf : pX13_reads g h this p1 p2 p3 = some h0) : Ctr G dk yX13_reads cX13_reads 4 none [va_rf (some this), .int p1, .int p2, .int p3] g h none g h0 := by
  refine Ctr.ofZ (lv := [(0, va_rf (some this)), (1, .int p1), (2, .int p2), (3, .int p3)]) (by decide +kernel) (by simp [cat_i, cat_l, cat_d, cat_rf]) rfl fun X Z => ?_
  unfold pX13_reads at hf
  replace hf := tg_i hf
  obtain ⟨t0, hf⟩ := hf
  refine J_aload_n Z.1 0 dX13_reads_0 rfl rfl ?_
  refine J_get (v := va_rf (hR h this 24)) Z.1 dX13_reads_1 fl_X13_41 t0 rfl ?_
  refine J_tr (fun r1 er1 => ?_)
  replace hf := lt_i hf r1 er1
  refine J_bipush Z.1 (v := 16) (by decide) dX13_reads_4 ?_
  refine J_iload_n Z.1 1 dX13_reads_6 rfl rfl ?_
  refine J_imul Z.1 dX13_reads_7 ?_
  refine J_iload_n Z.1 2 dX13_reads_8 rfl rfl ?_
  refine J_iadd Z.1 dX13_reads_9 ?_
  refine J_aload_n Z.1 0 dX13_reads_10 rfl rfl ?_
  refine J_get (v := va_rf (hR h this 24)) Z.1 dX13_reads_11 fl_X13_41 t0 rfl ?_
  refine J_tr (fun r2 er2 => ?_)
  replace hf := lt_i hf r2 er2
  refine J_bipush Z.1 (v := 16) (by decide) dX13_reads_14 ?_
  refine J_iload_n Z.1 1 dX13_reads_16 rfl rfl ?_
  refine J_imul Z.1 dX13_reads_17 ?_
  refine J_iload_n Z.1 2 dX13_reads_18 rfl rfl ?_
  refine J_iadd Z.1 dX13_reads_19 ?_
  replace hf := nn_i hf
  obtain ⟨a2, rfl, hf⟩ := hf
  replace hf := tg_i hf
  obtain ⟨t3, hf⟩ := hf
  replace hf := ix_i hf
  obtain ⟨i4, hf⟩ := hf
  refine J_iaload Z.1 dX13_reads_20 t3 i4 ?_
  refine J_iload_n Z.1 3 dX13_reads_21 rfl rfl ?_
  refine J_callS (as := [.int (hI h a2 (Int32.toNatClampNeg ((16 * p1) + p2))), .int p3]) (rest := [.int ((16 * p1) + p2), va_rf r1]) (sy := [.int (pJ9_max_7cf53 (hI h a2 (Int32.toNatClampNeg ((16 * p1) + p2))) p3), .int ((16 * p1) + p2), va_rf r1]) Z.1 dX13_reads_22 cw_X13_178 (pJ9_max_7cf53_ok G (dk - 1) (by omega) g h (hI h a2 (Int32.toNatClampNeg ((16 * p1) + p2))) p3) (zG Z) rfl (by simp [cat_i, cat_l, cat_d, cat_rf]) (zF Z (by omega)) (zO Z (by omega) (by decide)) (zM _) Z.2.1 Z.2.1 rfl rfl ?_
  replace hf := nn_i hf
  obtain ⟨a1, rfl, hf⟩ := hf
  replace hf := tg_i hf
  obtain ⟨t5, hf⟩ := hf
  replace hf := ix_i hf
  obtain ⟨i6, hf⟩ := hf
  refine J_iastore Z.1 dX13_reads_25 t5 i6 ?_
  refine J_th (fun h7 eh7 => ?_)
  replace hf := lt_i hf h7 eh7
  cases hf
  exact J_vret Z.1 Z.2.2.2.2.2 dX13_reads_26
theorem dX13_readsAll_0 : decode cX13_readsAll 0 = .ok (.aload_n 0, 1) := by decide +kernel
theorem dX13_readsAll_1 : decode cX13_readsAll 1 = .ok (.iload_n 1, 1) := by decide +kernel
theorem dX13_readsAll_2 : decode cX13_readsAll 2 = .ok (.iconst 0, 1) := by decide +kernel
theorem dX13_readsAll_3 : decode cX13_readsAll 3 = .ok (.invokevirtual 381, 3) := by decide +kernel
theorem dX13_readsAll_6 : decode cX13_readsAll 6 = .ok (.istore 4, 2) := by decide +kernel
theorem dX13_readsAll_8 : decode cX13_readsAll 8 = .ok (.iload 4, 2) := by decide +kernel
theorem dX13_readsAll_10 : decode cX13_readsAll 10 = .ok (.invokestatic 383, 3) := by decide +kernel
theorem dX13_readsAll_13 : decode cX13_readsAll 13 = .ok (.ifCond .eq 15, 3) := by decide +kernel
theorem dX13_readsAll_16 : decode cX13_readsAll 16 = .ok (.aload_n 0, 1) := by decide +kernel
theorem dX13_readsAll_17 : decode cX13_readsAll 17 = .ok (.aload_n 0, 1) := by decide +kernel
theorem dX13_readsAll_18 : decode cX13_readsAll 18 = .ok (.iload_n 1, 1) := by decide +kernel
theorem dX13_readsAll_19 : decode cX13_readsAll 19 = .ok (.iconst 2, 1) := by decide +kernel
theorem dX13_readsAll_20 : decode cX13_readsAll 20 = .ok (.invokevirtual 381, 3) := by decide +kernel
theorem dX13_readsAll_23 : decode cX13_readsAll 23 = .ok (.iload_n 2, 1) := by decide +kernel
theorem dX13_readsAll_24 : decode cX13_readsAll 24 = .ok (.iload_n 3, 1) := by decide +kernel
theorem dX13_readsAll_25 : decode cX13_readsAll 25 = .ok (.invokevirtual 444, 3) := by decide +kernel
theorem dX13_readsAll_28 : decode cX13_readsAll 28 = .ok (.iload 4, 2) := by decide +kernel
theorem dX13_readsAll_30 : decode cX13_readsAll 30 = .ok (.invokestatic 389, 3) := by decide +kernel
theorem dX13_readsAll_33 : decode cX13_readsAll 33 = .ok (.ifCond .eq 15, 3) := by decide +kernel
theorem dX13_readsAll_36 : decode cX13_readsAll 36 = .ok (.aload_n 0, 1) := by decide +kernel
theorem dX13_readsAll_37 : decode cX13_readsAll 37 = .ok (.aload_n 0, 1) := by decide +kernel
theorem dX13_readsAll_38 : decode cX13_readsAll 38 = .ok (.iload_n 1, 1) := by decide +kernel
theorem dX13_readsAll_39 : decode cX13_readsAll 39 = .ok (.iconst 3, 1) := by decide +kernel
theorem dX13_readsAll_40 : decode cX13_readsAll 40 = .ok (.invokevirtual 381, 3) := by decide +kernel
theorem dX13_readsAll_43 : decode cX13_readsAll 43 = .ok (.iload_n 2, 1) := by decide +kernel
theorem dX13_readsAll_44 : decode cX13_readsAll 44 = .ok (.iload_n 3, 1) := by decide +kernel
theorem dX13_readsAll_45 : decode cX13_readsAll 45 = .ok (.invokevirtual 444, 3) := by decide +kernel
theorem dX13_readsAll_48 : decode cX13_readsAll 48 = .ok (.iload 4, 2) := by decide +kernel
theorem dX13_readsAll_50 : decode cX13_readsAll 50 = .ok (.invokestatic 392, 3) := by decide +kernel
theorem dX13_readsAll_53 : decode cX13_readsAll 53 = .ok (.ifCond .eq 15, 3) := by decide +kernel
theorem dX13_readsAll_56 : decode cX13_readsAll 56 = .ok (.aload_n 0, 1) := by decide +kernel
theorem dX13_readsAll_57 : decode cX13_readsAll 57 = .ok (.aload_n 0, 1) := by decide +kernel
theorem dX13_readsAll_58 : decode cX13_readsAll 58 = .ok (.iload_n 1, 1) := by decide +kernel
theorem dX13_readsAll_59 : decode cX13_readsAll 59 = .ok (.iconst 1, 1) := by decide +kernel
theorem dX13_readsAll_60 : decode cX13_readsAll 60 = .ok (.invokevirtual 381, 3) := by decide +kernel
theorem dX13_readsAll_63 : decode cX13_readsAll 63 = .ok (.iload_n 2, 1) := by decide +kernel
theorem dX13_readsAll_64 : decode cX13_readsAll 64 = .ok (.iload_n 3, 1) := by decide +kernel
theorem dX13_readsAll_65 : decode cX13_readsAll 65 = .ok (.invokevirtual 444, 3) := by decide +kernel
theorem dX13_readsAll_68 : decode cX13_readsAll 68 = .ok (.return_, 1) := by decide +kernel
def pX13_readsAll_b48 (g : MT) (this : Nat) (p1 : Int32) (p2 : Int32) (p3 : Int32) (l4 : Int32) (h : CT) : Option CT := if (pX13_readsD l4) = 0 then some h else bd (pX13_at g h this p1 1) fun x2 => (bd (pX13_reads g h this x2 p2 p3) fun h4 => (some h4))
set_option maxRecDepth 10000 in
set_option maxHeartbeats 4000000 in
theorem pX13_readsAll_b48_ok {X : Cx} {G : Gx} {dk : Nat} {g : MT} {h0 : CT} {this : Nat} {p1 : Int32} {p2 : Int32} {p3 : Int32} (Z : Zx X G cX13_readsAll RX13 5 dk none none g h0) (hK : 2 ≤ dk) (t0 : gT g this = 12) (l4 : Int32) (h : CT) (hf : pX13_readsAll_b48 g this p1 p2 p3 l4 h = some h0) : J X g h 48 [(0, va_rf (some this)), (1, .int p1), (2, .int p2), (3, .int p3), (4, .int l4)] [] := by
  unfold pX13_readsAll_b48 at hf
  refine J_iload Z.1 4 dX13_readsAll_48 rfl ?_
  refine J_callS (as := [.int l4]) (rest := []) (sy := [.int (pX13_readsD l4)]) Z.1 dX13_readsAll_50 cw_X13_392 (pX13_readsD_ok G (dk - 1) (by omega) g h l4) (zG Z) rfl (by decide) (zF Z (by omega)) (zO Z (by omega) (by decide)) (zM _) Z.2.1 Z.2.1 rfl rfl ?_
  refine J_if_eq Z.1 68 dX13_readsAll_53 (by decide) (fun c1 => ?_) (fun c1 => ?_)
  · rw [if_pos c1] at hf
    cases hf
    exact J_vret Z.1 Z.2.2.2.2.2 dX13_readsAll_68
  · rw [if_neg c1] at hf
    refine J_aload_n Z.1 0 dX13_readsAll_56 rfl rfl ?_
    refine J_aload_n Z.1 0 dX13_readsAll_57 rfl rfl ?_
    refine J_iload_n Z.1 1 dX13_readsAll_58 rfl rfl ?_
    refine J_iconst Z.1 (v := 1) (by decide) dX13_readsAll_59 ?_
    replace hf := bd_i hf
    obtain ⟨x2, q3, hf⟩ := hf
    refine J_callV (ci := 11) (as := [.int p1, .int 1]) (rest := [va_rf (some this)]) (sy := [.int x2, va_rf (some this)]) Z.1 dX13_readsAll_60 cw_X13_381 (pX13_at_ok G (dk - 1) (by omega) q3) rfl rfl t0 (zG Z) rfl (by simp [cat_i, cat_l, cat_d, cat_rf]) (zF Z (by omega)) (zO Z (by omega) (by decide)) (zM _) Z.2.1 Z.2.1 rfl rfl ?_
    refine J_iload_n Z.1 2 dX13_readsAll_63 rfl rfl ?_
    refine J_iload_n Z.1 3 dX13_readsAll_64 rfl rfl ?_
    replace hf := bd_i hf
    obtain ⟨h4, q5, hf⟩ := hf
    refine J_callV (ci := 11) (as := [.int x2, .int p2, .int p3]) (rest := []) (sy := []) Z.1 dX13_readsAll_65 cw_X13_444 (pX13_reads_ok G (dk - 1) (by omega) q5) rfl rfl t0 (zG Z) rfl (by decide) (zF Z (by omega)) (zO Z (by omega) (by decide)) (zM _) Z.2.1 Z.2.1 rfl rfl ?_
    cases hf
    exact J_vret Z.1 Z.2.2.2.2.2 dX13_readsAll_68
def pX13_readsAll_b28 (g : MT) (this : Nat) (p1 : Int32) (p2 : Int32) (p3 : Int32) (l4 : Int32) (h : CT) : Option CT := if (pX13_readsB l4) = 0 then pX13_readsAll_b48 g this p1 p2 p3  l4 h else bd (pX13_at g h this p1 3) fun x2 => (bd (pX13_reads g h this x2 p2 p3) fun h4 => (pX13_readsAll_b48 g this p1 p2 p3  l4 h4))
set_option maxRecDepth 10000 in
set_option maxHeartbeats 4000000 in
theorem pX13_readsAll_b28_ok {X : Cx} {G : Gx} {dk : Nat} {g : MT} {h0 : CT} {this : Nat} {p1 : Int32} {p2 : Int32} {p3 : Int32} (Z : Zx X G cX13_readsAll RX13 5 dk none none g h0) (hK : 2 ≤ dk) (t0 : gT g this = 12) (l4 : Int32) (h : CT) (hf : pX13_readsAll_b28 g this p1 p2 p3 l4 h = some h0) : J X g h 28 [(0, va_rf (some this)), (1, .int p1), (2, .int p2), (3, .int p3), (4, .int l4)] [] := by
  unfold pX13_readsAll_b28 at hf
  refine J_iload Z.1 4 dX13_readsAll_28 rfl ?_
  refine J_callS (as := [.int l4]) (rest := []) (sy := [.int (pX13_readsB l4)]) Z.1 dX13_readsAll_30 cw_X13_389 (pX13_readsB_ok G (dk - 1) (by omega) g h l4) (zG Z) rfl (by decide) (zF Z (by omega)) (zO Z (by omega) (by decide)) (zM _) Z.2.1 Z.2.1 rfl rfl ?_
  refine J_if_eq Z.1 48 dX13_readsAll_33 (by decide) (fun c1 => ?_) (fun c1 => ?_)
  · rw [if_pos c1] at hf
    exact pX13_readsAll_b48_ok Z hK t0  _ _ hf
  · rw [if_neg c1] at hf
    refine J_aload_n Z.1 0 dX13_readsAll_36 rfl rfl ?_
    refine J_aload_n Z.1 0 dX13_readsAll_37 rfl rfl ?_
    refine J_iload_n Z.1 1 dX13_readsAll_38 rfl rfl ?_
    refine J_iconst Z.1 (v := 3) (by decide) dX13_readsAll_39 ?_
    replace hf := bd_i hf
    obtain ⟨x2, q3, hf⟩ := hf
    refine J_callV (ci := 11) (as := [.int p1, .int 3]) (rest := [va_rf (some this)]) (sy := [.int x2, va_rf (some this)]) Z.1 dX13_readsAll_40 cw_X13_381 (pX13_at_ok G (dk - 1) (by omega) q3) rfl rfl t0 (zG Z) rfl (by simp [cat_i, cat_l, cat_d, cat_rf]) (zF Z (by omega)) (zO Z (by omega) (by decide)) (zM _) Z.2.1 Z.2.1 rfl rfl ?_
    refine J_iload_n Z.1 2 dX13_readsAll_43 rfl rfl ?_
    refine J_iload_n Z.1 3 dX13_readsAll_44 rfl rfl ?_
    replace hf := bd_i hf
    obtain ⟨h4, q5, hf⟩ := hf
    refine J_callV (ci := 11) (as := [.int x2, .int p2, .int p3]) (rest := []) (sy := []) Z.1 dX13_readsAll_45 cw_X13_444 (pX13_reads_ok G (dk - 1) (by omega) q5) rfl rfl t0 (zG Z) rfl (by decide) (zF Z (by omega)) (zO Z (by omega) (by decide)) (zM _) Z.2.1 Z.2.1 rfl rfl ?_
    exact pX13_readsAll_b48_ok Z hK t0  _ _ hf
def pX13_readsAll (g : MT) (h : CT) (this : Nat) (p1 : Int32) (p2 : Int32) (p3 : Int32) : Option CT := tg g this 12 (bd (pX13_at g h this p1 0) fun x1 => (if (pX13_readsA x1) = 0 then pX13_readsAll_b28 g this p1 p2 p3  x1 h else bd (pX13_at g h this p1 2) fun x4 => (bd (pX13_reads g h this x4 p2 p3) fun h6 => (pX13_readsAll_b28 g this p1 p2 p3  x1 h6))))
set_option maxRecDepth 10000 in
set_option maxHeartbeats 4000000 in
theorem pX13_readsAll_ok (G : Gx) (dk : Nat) (hK : 2 ≤ dk) {g : MT} {h h0 : CT} {this : Nat} {p1 : Int32} {p2 : Int32} {p3 : Int32} (hf : pX13_readsAll g h this p1 p2 p3 = some h0) : Ctr G dk yX13_readsAll cX13_readsAll 5 none [va_rf (some this), .int p1, .int p2, .int p3] g h none g h0 := by
  refine Ctr.ofZ (lv := [(0, va_rf (some this)), (1, .int p1), (2, .int p2), (3, .int p3)]) (by decide +kernel) (by simp [cat_i, cat_l, cat_d, cat_rf]) rfl fun X Z => ?_
  unfold pX13_readsAll at hf
  replace hf := tg_i hf
  obtain ⟨t0, hf⟩ := hf
  refine J_aload_n Z.1 0 dX13_readsAll_0 rfl rfl ?_
  refine J_iload_n Z.1 1 dX13_readsAll_1 rfl rfl ?_
  refine J_iconst Z.1 (v := 0) (by decide) dX13_readsAll_2 ?_
  replace hf := bd_i hf
  obtain ⟨x1, q2, hf⟩ := hf
  refine J_callV (ci := 11) (as := [.int p1, .int 0]) (rest := []) (sy := [.int x1]) Z.1 dX13_readsAll_3 cw_X13_381 (pX13_at_ok G (dk - 1) (by omega) q2) rfl rfl t0 (zG Z) rfl (by decide) (zF Z (by omega)) (zO Z (by omega) (by decide)) (zM _) Z.2.1 Z.2.1 rfl rfl ?_
  refine J_istore Z.1 (lv2 := [(4, .int x1), (0, va_rf (some this)), (1, .int p1), (2, .int p2), (3, .int p3)]) dX13_readsAll_6 (zL Z (by decide)) rfl ?_
  refine J_iload Z.1 0 dX13_readsAll_8 rfl ?_
  refine J_callS (as := [.int x1]) (rest := []) (sy := [.int (pX13_readsA x1)]) Z.1 dX13_readsAll_10 cw_X13_383 (pX13_readsA_ok G (dk - 1) (by omega) g h x1) (zG Z) rfl (by decide) (zF Z (by omega)) (zO Z (by omega) (by decide)) (zM _) Z.2.1 Z.2.1 rfl rfl ?_
  refine J_if_eq Z.1 28 dX13_readsAll_13 (by decide) (fun c3 => ?_) (fun c3 => ?_)
  · rw [if_pos c3] at hf
    refine J_lv [1, 2, 3, 4, 0] rfl ?_
    exact pX13_readsAll_b28_ok Z hK t0  _ _ hf
  · rw [if_neg c3] at hf
    refine J_aload_n Z.1 1 dX13_readsAll_16 rfl rfl ?_
    refine J_aload_n Z.1 1 dX13_readsAll_17 rfl rfl ?_
    refine J_iload_n Z.1 2 dX13_readsAll_18 rfl rfl ?_
    refine J_iconst Z.1 (v := 2) (by decide) dX13_readsAll_19 ?_
    replace hf := bd_i hf
    obtain ⟨x4, q5, hf⟩ := hf
    refine J_callV (ci := 11) (as := [.int p1, .int 2]) (rest := [va_rf (some this)]) (sy := [.int x4, va_rf (some this)]) Z.1 dX13_readsAll_20 cw_X13_381 (pX13_at_ok G (dk - 1) (by omega) q5) rfl rfl t0 (zG Z) rfl (by simp [cat_i, cat_l, cat_d, cat_rf]) (zF Z (by omega)) (zO Z (by omega) (by decide)) (zM _) Z.2.1 Z.2.1 rfl rfl ?_
    refine J_iload_n Z.1 3 dX13_readsAll_23 rfl rfl ?_
    refine J_iload_n Z.1 4 dX13_readsAll_24 rfl rfl ?_
    replace hf := bd_i hf
    obtain ⟨h6, q7, hf⟩ := hf
    refine J_callV (ci := 11) (as := [.int x4, .int p2, .int p3]) (rest := []) (sy := []) Z.1 dX13_readsAll_25 cw_X13_444 (pX13_reads_ok G (dk - 1) (by omega) q7) rfl rfl t0 (zG Z) rfl (by decide) (zF Z (by omega)) (zO Z (by omega) (by decide)) (zM _) Z.2.1 Z.2.1 rfl rfl ?_
    refine J_lv [1, 2, 3, 4, 0] rfl ?_
    exact pX13_readsAll_b28_ok Z hK t0  _ _ hf
theorem dX13_reckoned_0 : decode cX13_reckoned 0 = .ok (.iload_n 0, 1) := by decide +kernel
theorem dX13_reckoned_1 : decode cX13_reckoned 1 = .ok (.bipush 7, 2) := by decide +kernel
theorem dX13_reckoned_3 : decode cX13_reckoned 3 = .ok (.if_icmp .ne 7, 3) := by decide +kernel
theorem dX13_reckoned_6 : decode cX13_reckoned 6 = .ok (.dload_n 1, 1) := by decide +kernel
theorem dX13_reckoned_7 : decode cX13_reckoned 7 = .ok (.dload_n 3, 1) := by decide +kernel
theorem dX13_reckoned_8 : decode cX13_reckoned 8 = .ok (.dadd, 1) := by decide +kernel
theorem dX13_reckoned_9 : decode cX13_reckoned 9 = .ok (.dreturn, 1) := by decide +kernel
theorem dX13_reckoned_10 : decode cX13_reckoned 10 = .ok (.iload_n 0, 1) := by decide +kernel
theorem dX13_reckoned_11 : decode cX13_reckoned 11 = .ok (.bipush 8, 2) := by decide +kernel
theorem dX13_reckoned_13 : decode cX13_reckoned 13 = .ok (.if_icmp .ne 7, 3) := by decide +kernel
theorem dX13_reckoned_16 : decode cX13_reckoned 16 = .ok (.dload_n 1, 1) := by decide +kernel
theorem dX13_reckoned_17 : decode cX13_reckoned 17 = .ok (.dload_n 3, 1) := by decide +kernel
theorem dX13_reckoned_18 : decode cX13_reckoned 18 = .ok (.dsub, 1) := by decide +kernel
theorem dX13_reckoned_19 : decode cX13_reckoned 19 = .ok (.dreturn, 1) := by decide +kernel
theorem dX13_reckoned_20 : decode cX13_reckoned 20 = .ok (.iload_n 0, 1) := by decide +kernel
theorem dX13_reckoned_21 : decode cX13_reckoned 21 = .ok (.bipush 9, 2) := by decide +kernel
theorem dX13_reckoned_23 : decode cX13_reckoned 23 = .ok (.if_icmp .ne 7, 3) := by decide +kernel
theorem dX13_reckoned_26 : decode cX13_reckoned 26 = .ok (.dload_n 1, 1) := by decide +kernel
theorem dX13_reckoned_27 : decode cX13_reckoned 27 = .ok (.dload_n 3, 1) := by decide +kernel
theorem dX13_reckoned_28 : decode cX13_reckoned 28 = .ok (.dmul, 1) := by decide +kernel
theorem dX13_reckoned_29 : decode cX13_reckoned 29 = .ok (.dreturn, 1) := by decide +kernel
theorem dX13_reckoned_30 : decode cX13_reckoned 30 = .ok (.iload_n 0, 1) := by decide +kernel
theorem dX13_reckoned_31 : decode cX13_reckoned 31 = .ok (.bipush 10, 2) := by decide +kernel
theorem dX13_reckoned_33 : decode cX13_reckoned 33 = .ok (.if_icmp .ne 7, 3) := by decide +kernel
theorem dX13_reckoned_36 : decode cX13_reckoned 36 = .ok (.dload_n 1, 1) := by decide +kernel
theorem dX13_reckoned_37 : decode cX13_reckoned 37 = .ok (.dload_n 3, 1) := by decide +kernel
theorem dX13_reckoned_38 : decode cX13_reckoned 38 = .ok (.ddiv, 1) := by decide +kernel
theorem dX13_reckoned_39 : decode cX13_reckoned 39 = .ok (.dreturn, 1) := by decide +kernel
theorem dX13_reckoned_40 : decode cX13_reckoned 40 = .ok (.iload_n 0, 1) := by decide +kernel
theorem dX13_reckoned_41 : decode cX13_reckoned 41 = .ok (.bipush 11, 2) := by decide +kernel
theorem dX13_reckoned_43 : decode cX13_reckoned 43 = .ok (.if_icmp .ne 7, 3) := by decide +kernel
theorem dX13_reckoned_46 : decode cX13_reckoned 46 = .ok (.dload_n 1, 1) := by decide +kernel
theorem dX13_reckoned_47 : decode cX13_reckoned 47 = .ok (.dload_n 3, 1) := by decide +kernel
theorem dX13_reckoned_48 : decode cX13_reckoned 48 = .ok (.drem, 1) := by decide +kernel
theorem dX13_reckoned_49 : decode cX13_reckoned 49 = .ok (.dreturn, 1) := by decide +kernel
theorem dX13_reckoned_50 : decode cX13_reckoned 50 = .ok (.iload_n 0, 1) := by decide +kernel
theorem dX13_reckoned_51 : decode cX13_reckoned 51 = .ok (.bipush 12, 2) := by decide +kernel
theorem dX13_reckoned_53 : decode cX13_reckoned 53 = .ok (.if_icmp .ne 9, 3) := by decide +kernel
theorem dX13_reckoned_56 : decode cX13_reckoned 56 = .ok (.dload_n 1, 1) := by decide +kernel
theorem dX13_reckoned_57 : decode cX13_reckoned 57 = .ok (.dload_n 3, 1) := by decide +kernel
theorem dX13_reckoned_58 : decode cX13_reckoned 58 = .ok (.invokestatic 447, 3) := by decide +kernel
theorem dX13_reckoned_61 : decode cX13_reckoned 61 = .ok (.dreturn, 1) := by decide +kernel
theorem dX13_reckoned_62 : decode cX13_reckoned 62 = .ok (.iload_n 0, 1) := by decide +kernel
theorem dX13_reckoned_63 : decode cX13_reckoned 63 = .ok (.bipush 13, 2) := by decide +kernel
theorem dX13_reckoned_65 : decode cX13_reckoned 65 = .ok (.if_icmp .ne 9, 3) := by decide +kernel
theorem dX13_reckoned_68 : decode cX13_reckoned 68 = .ok (.dload_n 1, 1) := by decide +kernel
theorem dX13_reckoned_69 : decode cX13_reckoned 69 = .ok (.dload_n 3, 1) := by decide +kernel
theorem dX13_reckoned_70 : decode cX13_reckoned 70 = .ok (.invokestatic 451, 3) := by decide +kernel
theorem dX13_reckoned_73 : decode cX13_reckoned 73 = .ok (.dreturn, 1) := by decide +kernel
theorem dX13_reckoned_74 : decode cX13_reckoned 74 = .ok (.iload_n 0, 1) := by decide +kernel
theorem dX13_reckoned_75 : decode cX13_reckoned 75 = .ok (.bipush 15, 2) := by decide +kernel
theorem dX13_reckoned_77 : decode cX13_reckoned 77 = .ok (.if_icmp .ne 7, 3) := by decide +kernel
theorem dX13_reckoned_80 : decode cX13_reckoned 80 = .ok (.dload_n 1, 1) := by decide +kernel
theorem dX13_reckoned_81 : decode cX13_reckoned 81 = .ok (.d2f, 1) := by decide +kernel
theorem dX13_reckoned_82 : decode cX13_reckoned 82 = .ok (.f2d, 1) := by decide +kernel
theorem dX13_reckoned_83 : decode cX13_reckoned 83 = .ok (.dreturn, 1) := by decide +kernel
theorem dX13_reckoned_84 : decode cX13_reckoned 84 = .ok (.iload_n 0, 1) := by decide +kernel
theorem dX13_reckoned_85 : decode cX13_reckoned 85 = .ok (.bipush 16, 2) := by decide +kernel
theorem dX13_reckoned_87 : decode cX13_reckoned 87 = .ok (.if_icmp .ne 9, 3) := by decide +kernel
theorem dX13_reckoned_90 : decode cX13_reckoned 90 = .ok (.dload_n 1, 1) := by decide +kernel
theorem dX13_reckoned_91 : decode cX13_reckoned 91 = .ok (.d2l, 1) := by decide +kernel
theorem dX13_reckoned_92 : decode cX13_reckoned 92 = .ok (.l2d, 1) := by decide +kernel
theorem dX13_reckoned_93 : decode cX13_reckoned 93 = .ok (.goto 4, 3) := by decide +kernel
theorem dX13_reckoned_96 : decode cX13_reckoned 96 = .ok (.dload_n 1, 1) := by decide +kernel
theorem dX13_reckoned_97 : decode cX13_reckoned 97 = .ok (.dreturn, 1) := by decide +kernel
def pX13_reckoned (p0 : Int32) (p1 : UInt64) (p3 : UInt64) : UInt64 := if p0 = 7 then (fadd p1 p3) else if p0 = 8 then (fsub p1 p3) else if p0 = 9 then (fmul p1 p3) else if p0 = 10 then (fdiv p1 p3) else if p0 = 11 then (frem p1 p3) else if p0 = 12 then (fmin p1 p3) else if p0 = 13 then (fmax p1 p3) else if p0 = 15 then (cnD (FP.f2d (cnF (FP.d2f p1)))) else if p0 = 16 then (fl2d (FP.d2l p1)) else p1
set_option maxRecDepth 10000 in
set_option maxHeartbeats 4000000 in
theorem pX13_reckoned_ok (G : Gx) (dk : Nat) (hK : 1 ≤ dk) (g : MT) (h0 : CT) (p0 : Int32) (p1 : UInt64) (p3 : UInt64) : Ctr G dk yX13_reckoned cX13_reckoned 5 (some .double) [.int p0, .double p1, .double p3] g h0 (some (.double (pX13_reckoned p0 p1 p3))) g h0 := by
  obtain ⟨r0, hf⟩ : ∃ z, pX13_reckoned p0 p1 p3 = z := ⟨_, rfl⟩
  rw [hf]
  refine Ctr.ofZ (lv := [(0, .int p0), (1, .double p1), (3, .double p3)]) (by decide +kernel) (by simp [cat_i, cat_l, cat_d, cat_rf]) rfl fun X Z => ?_
  unfold pX13_reckoned at hf
  refine J_iload_n Z.1 0 dX13_reckoned_0 rfl rfl ?_
  refine J_bipush Z.1 (v := 7) (by decide) dX13_reckoned_1 ?_
  refine J_icmp_ne Z.1 10 dX13_reckoned_3 (by decide) (fun c1 => ?_) (fun c1 => ?_)
  · rw [if_neg c1] at hf
    refine J_iload_n Z.1 0 dX13_reckoned_10 rfl rfl ?_
    refine J_bipush Z.1 (v := 8) (by decide) dX13_reckoned_11 ?_
    refine J_icmp_ne Z.1 20 dX13_reckoned_13 (by decide) (fun c2 => ?_) (fun c2 => ?_)
    · rw [if_neg c2] at hf
      refine J_iload_n Z.1 0 dX13_reckoned_20 rfl rfl ?_
      refine J_bipush Z.1 (v := 9) (by decide) dX13_reckoned_21 ?_
      refine J_icmp_ne Z.1 30 dX13_reckoned_23 (by decide) (fun c3 => ?_) (fun c3 => ?_)
      · rw [if_neg c3] at hf
        refine J_iload_n Z.1 0 dX13_reckoned_30 rfl rfl ?_
        refine J_bipush Z.1 (v := 10) (by decide) dX13_reckoned_31 ?_
        refine J_icmp_ne Z.1 40 dX13_reckoned_33 (by decide) (fun c4 => ?_) (fun c4 => ?_)
        · rw [if_neg c4] at hf
          refine J_iload_n Z.1 0 dX13_reckoned_40 rfl rfl ?_
          refine J_bipush Z.1 (v := 11) (by decide) dX13_reckoned_41 ?_
          refine J_icmp_ne Z.1 50 dX13_reckoned_43 (by decide) (fun c5 => ?_) (fun c5 => ?_)
          · rw [if_neg c5] at hf
            refine J_iload_n Z.1 0 dX13_reckoned_50 rfl rfl ?_
            refine J_bipush Z.1 (v := 12) (by decide) dX13_reckoned_51 ?_
            refine J_icmp_ne Z.1 62 dX13_reckoned_53 (by decide) (fun c6 => ?_) (fun c6 => ?_)
            · rw [if_neg c6] at hf
              refine J_iload_n Z.1 0 dX13_reckoned_62 rfl rfl ?_
              refine J_bipush Z.1 (v := 13) (by decide) dX13_reckoned_63 ?_
              refine J_icmp_ne Z.1 74 dX13_reckoned_65 (by decide) (fun c7 => ?_) (fun c7 => ?_)
              · rw [if_neg c7] at hf
                refine J_iload_n Z.1 0 dX13_reckoned_74 rfl rfl ?_
                refine J_bipush Z.1 (v := 15) (by decide) dX13_reckoned_75 ?_
                refine J_icmp_ne Z.1 84 dX13_reckoned_77 (by decide) (fun c8 => ?_) (fun c8 => ?_)
                · rw [if_neg c8] at hf
                  refine J_iload_n Z.1 0 dX13_reckoned_84 rfl rfl ?_
                  refine J_bipush Z.1 (v := 16) (by decide) dX13_reckoned_85 ?_
                  refine J_icmp_ne Z.1 96 dX13_reckoned_87 (by decide) (fun c9 => ?_) (fun c9 => ?_)
                  · rw [if_neg c9] at hf
                    refine J_dload_n Z.1 1 dX13_reckoned_96 rfl rfl ?_
                    cases hf
                    exact J_dret Z.1 Z.2.2.2.2.2 dX13_reckoned_97
                  · rw [if_pos c9] at hf
                    refine J_dload_n Z.1 1 dX13_reckoned_90 rfl rfl ?_
                    refine J_d2l Z.1 dX13_reckoned_91 ?_
                    refine J_l2d Z.1 dX13_reckoned_92 ?_
                    refine J_goto Z.1 97 dX13_reckoned_93 (by decide) ?_
                    cases hf
                    exact J_dret Z.1 Z.2.2.2.2.2 dX13_reckoned_97
                · rw [if_pos c8] at hf
                  refine J_dload_n Z.1 1 dX13_reckoned_80 rfl rfl ?_
                  refine J_d2f Z.1 dX13_reckoned_81 ?_
                  refine J_f2d Z.1 dX13_reckoned_82 ?_
                  cases hf
                  exact J_dret Z.1 Z.2.2.2.2.2 dX13_reckoned_83
              · rw [if_pos c7] at hf
                refine J_dload_n Z.1 1 dX13_reckoned_68 rfl rfl ?_
                refine J_dload_n Z.1 2 dX13_reckoned_69 rfl rfl ?_
                refine J_dmax Z.1 dX13_reckoned_70 q_2003 q_2004 q_142 q_2005 Z.2.1 (zF Z (d := 0) (by omega)) (zO1 Z (by omega) (by simp [cat_i, cat_l, cat_d, cat_rf])) ?_
                cases hf
                exact J_dret Z.1 Z.2.2.2.2.2 dX13_reckoned_73
            · rw [if_pos c6] at hf
              refine J_dload_n Z.1 1 dX13_reckoned_56 rfl rfl ?_
              refine J_dload_n Z.1 2 dX13_reckoned_57 rfl rfl ?_
              refine J_dmin Z.1 dX13_reckoned_58 q_1995 q_1996 q_142 q_1997 Z.2.1 (zF Z (d := 0) (by omega)) (zO1 Z (by omega) (by simp [cat_i, cat_l, cat_d, cat_rf])) ?_
              cases hf
              exact J_dret Z.1 Z.2.2.2.2.2 dX13_reckoned_61
          · rw [if_pos c5] at hf
            refine J_dload_n Z.1 1 dX13_reckoned_46 rfl rfl ?_
            refine J_dload_n Z.1 2 dX13_reckoned_47 rfl rfl ?_
            refine J_drem Z.1 dX13_reckoned_48 ?_
            cases hf
            exact J_dret Z.1 Z.2.2.2.2.2 dX13_reckoned_49
        · rw [if_pos c4] at hf
          refine J_dload_n Z.1 1 dX13_reckoned_36 rfl rfl ?_
          refine J_dload_n Z.1 2 dX13_reckoned_37 rfl rfl ?_
          refine J_ddiv Z.1 dX13_reckoned_38 ?_
          cases hf
          exact J_dret Z.1 Z.2.2.2.2.2 dX13_reckoned_39
      · rw [if_pos c3] at hf
        refine J_dload_n Z.1 1 dX13_reckoned_26 rfl rfl ?_
        refine J_dload_n Z.1 2 dX13_reckoned_27 rfl rfl ?_
        refine J_dmul Z.1 dX13_reckoned_28 ?_
        cases hf
        exact J_dret Z.1 Z.2.2.2.2.2 dX13_reckoned_29
    · rw [if_pos c2] at hf
      refine J_dload_n Z.1 1 dX13_reckoned_16 rfl rfl ?_
      refine J_dload_n Z.1 2 dX13_reckoned_17 rfl rfl ?_
      refine J_dsub Z.1 dX13_reckoned_18 ?_
      cases hf
      exact J_dret Z.1 Z.2.2.2.2.2 dX13_reckoned_19
  · rw [if_pos c1] at hf
    refine J_dload_n Z.1 1 dX13_reckoned_6 rfl rfl ?_
    refine J_dload_n Z.1 2 dX13_reckoned_7 rfl rfl ?_
    refine J_dadd Z.1 dX13_reckoned_8 ?_
    cases hf
    exact J_dret Z.1 Z.2.2.2.2.2 dX13_reckoned_9
theorem dX13_valueOf_0 : decode cX13_valueOf 0 = .ok (.aload_n 0, 1) := by decide +kernel
theorem dX13_valueOf_1 : decode cX13_valueOf 1 = .ok (.iload_n 1, 1) := by decide +kernel
theorem dX13_valueOf_2 : decode cX13_valueOf 2 = .ok (.iconst 0, 1) := by decide +kernel
theorem dX13_valueOf_3 : decode cX13_valueOf 3 = .ok (.invokevirtual 381, 3) := by decide +kernel
theorem dX13_valueOf_6 : decode cX13_valueOf 6 = .ok (.istore_n 3, 1) := by decide +kernel
theorem dX13_valueOf_7 : decode cX13_valueOf 7 = .ok (.iload_n 3, 1) := by decide +kernel
theorem dX13_valueOf_8 : decode cX13_valueOf 8 = .ok (.iconst 1, 1) := by decide +kernel
theorem dX13_valueOf_9 : decode cX13_valueOf 9 = .ok (.if_icmp .ne 6, 3) := by decide +kernel
theorem dX13_valueOf_12 : decode cX13_valueOf 12 = .ok (.iload_n 2, 1) := by decide +kernel
theorem dX13_valueOf_13 : decode cX13_valueOf 13 = .ok (.i2d, 1) := by decide +kernel
theorem dX13_valueOf_14 : decode cX13_valueOf 14 = .ok (.dreturn, 1) := by decide +kernel
theorem dX13_valueOf_15 : decode cX13_valueOf 15 = .ok (.iload_n 3, 1) := by decide +kernel
theorem dX13_valueOf_16 : decode cX13_valueOf 16 = .ok (.iconst 2, 1) := by decide +kernel
theorem dX13_valueOf_17 : decode cX13_valueOf 17 = .ok (.if_icmp .ne 18, 3) := by decide +kernel
theorem dX13_valueOf_20 : decode cX13_valueOf 20 = .ok (.aload_n 0, 1) := by decide +kernel
theorem dX13_valueOf_21 : decode cX13_valueOf 21 = .ok (.getfield 34, 3) := by decide +kernel
theorem dX13_valueOf_24 : decode cX13_valueOf 24 = .ok (.bipush 96, 2) := by decide +kernel
theorem dX13_valueOf_26 : decode cX13_valueOf 26 = .ok (.aload_n 0, 1) := by decide +kernel
theorem dX13_valueOf_27 : decode cX13_valueOf 27 = .ok (.iload_n 1, 1) := by decide +kernel
theorem dX13_valueOf_28 : decode cX13_valueOf 28 = .ok (.iconst 5, 1) := by decide +kernel
theorem dX13_valueOf_29 : decode cX13_valueOf 29 = .ok (.invokevirtual 381, 3) := by decide +kernel
theorem dX13_valueOf_32 : decode cX13_valueOf 32 = .ok (.iadd, 1) := by decide +kernel
theorem dX13_valueOf_33 : decode cX13_valueOf 33 = .ok (.daload, 1) := by decide +kernel
theorem dX13_valueOf_34 : decode cX13_valueOf 34 = .ok (.dreturn, 1) := by decide +kernel
theorem dX13_valueOf_35 : decode cX13_valueOf 35 = .ok (.iload_n 3, 1) := by decide +kernel
theorem dX13_valueOf_36 : decode cX13_valueOf 36 = .ok (.invokestatic 360, 3) := by decide +kernel
theorem dX13_valueOf_39 : decode cX13_valueOf 39 = .ok (.ifCond .eq 18, 3) := by decide +kernel
theorem dX13_valueOf_42 : decode cX13_valueOf 42 = .ok (.aload_n 0, 1) := by decide +kernel
theorem dX13_valueOf_43 : decode cX13_valueOf 43 = .ok (.getfield 34, 3) := by decide +kernel
theorem dX13_valueOf_46 : decode cX13_valueOf 46 = .ok (.bipush 100, 2) := by decide +kernel
theorem dX13_valueOf_48 : decode cX13_valueOf 48 = .ok (.aload_n 0, 1) := by decide +kernel
theorem dX13_valueOf_49 : decode cX13_valueOf 49 = .ok (.iload_n 1, 1) := by decide +kernel
theorem dX13_valueOf_50 : decode cX13_valueOf 50 = .ok (.iload_n 2, 1) := by decide +kernel
theorem dX13_valueOf_51 : decode cX13_valueOf 51 = .ok (.invokevirtual 432, 3) := by decide +kernel
theorem dX13_valueOf_54 : decode cX13_valueOf 54 = .ok (.iadd, 1) := by decide +kernel
theorem dX13_valueOf_55 : decode cX13_valueOf 55 = .ok (.daload, 1) := by decide +kernel
theorem dX13_valueOf_56 : decode cX13_valueOf 56 = .ok (.dreturn, 1) := by decide +kernel
theorem dX13_valueOf_57 : decode cX13_valueOf 57 = .ok (.iload_n 3, 1) := by decide +kernel
theorem dX13_valueOf_58 : decode cX13_valueOf 58 = .ok (.aload_n 0, 1) := by decide +kernel
theorem dX13_valueOf_59 : decode cX13_valueOf 59 = .ok (.getfield 34, 3) := by decide +kernel
theorem dX13_valueOf_62 : decode cX13_valueOf 62 = .ok (.bipush 16, 2) := by decide +kernel
theorem dX13_valueOf_64 : decode cX13_valueOf 64 = .ok (.aload_n 0, 1) := by decide +kernel
theorem dX13_valueOf_65 : decode cX13_valueOf 65 = .ok (.iload_n 1, 1) := by decide +kernel
theorem dX13_valueOf_66 : decode cX13_valueOf 66 = .ok (.iconst 2, 1) := by decide +kernel
theorem dX13_valueOf_67 : decode cX13_valueOf 67 = .ok (.invokevirtual 381, 3) := by decide +kernel
theorem dX13_valueOf_70 : decode cX13_valueOf 70 = .ok (.imul, 1) := by decide +kernel
theorem dX13_valueOf_71 : decode cX13_valueOf 71 = .ok (.iload_n 2, 1) := by decide +kernel
theorem dX13_valueOf_72 : decode cX13_valueOf 72 = .ok (.iadd, 1) := by decide +kernel
theorem dX13_valueOf_73 : decode cX13_valueOf 73 = .ok (.daload, 1) := by decide +kernel
theorem dX13_valueOf_74 : decode cX13_valueOf 74 = .ok (.aload_n 0, 1) := by decide +kernel
theorem dX13_valueOf_75 : decode cX13_valueOf 75 = .ok (.getfield 34, 3) := by decide +kernel
theorem dX13_valueOf_78 : decode cX13_valueOf 78 = .ok (.bipush 16, 2) := by decide +kernel
theorem dX13_valueOf_80 : decode cX13_valueOf 80 = .ok (.aload_n 0, 1) := by decide +kernel
theorem dX13_valueOf_81 : decode cX13_valueOf 81 = .ok (.iload_n 1, 1) := by decide +kernel
theorem dX13_valueOf_82 : decode cX13_valueOf 82 = .ok (.iconst 3, 1) := by decide +kernel
theorem dX13_valueOf_83 : decode cX13_valueOf 83 = .ok (.invokevirtual 381, 3) := by decide +kernel
theorem dX13_valueOf_86 : decode cX13_valueOf 86 = .ok (.imul, 1) := by decide +kernel
theorem dX13_valueOf_87 : decode cX13_valueOf 87 = .ok (.iload_n 2, 1) := by decide +kernel
theorem dX13_valueOf_88 : decode cX13_valueOf 88 = .ok (.iadd, 1) := by decide +kernel
theorem dX13_valueOf_89 : decode cX13_valueOf 89 = .ok (.daload, 1) := by decide +kernel
theorem dX13_valueOf_90 : decode cX13_valueOf 90 = .ok (.invokestatic 453, 3) := by decide +kernel
theorem dX13_valueOf_93 : decode cX13_valueOf 93 = .ok (.dreturn, 1) := by decide +kernel
def pX13_valueOf (g : MT) (h : CT) (this : Nat) (p1 : Int32) (p2 : Int32) : Option UInt64 := tg g this 12 (bd (pX13_at g h this p1 0) fun x1 => (if x1 = 1 then some (fi2d p2) else if x1 = 2 then lt (hR h this 20) fun r21 => (bd (pX13_at g h this p1 5) fun x22 => (nn r21 fun a21 => (tg g a21 22 (ix (gL g a21) (96 + x22) (some (hD h a21 (Int32.toNatClampNeg (96 + x22)))))))) else if (pX13_isMemory x1) = 0 then lt (hR h this 20) fun r6 => (bd (pX13_at g h this p1 2) fun x7 => (nn r6 fun a6 => (tg g a6 22 (ix (gL g a6) ((16 * x7) + p2) (lt (hR h this 20) fun r11 => (bd (pX13_at g h this p1 3) fun x12 => (nn r11 fun a11 => (tg g a11 22 (ix (gL g a11) ((16 * x12) + p2) (some (pX13_reckoned x1 (hD h a6 (Int32.toNatClampNeg ((16 * x7) + p2))) (hD h a11 (Int32.toNatClampNeg ((16 * x12) + p2)))))))))))))) else lt (hR h this 20) fun r16 => (bd (pX13_placeOf g h this p1 p2) fun x17 => (nn r16 fun a16 => (tg g a16 22 (ix (gL g a16) (100 + x17) (some (hD h a16 (Int32.toNatClampNeg (100 + x17))))))))))
set_option maxRecDepth 10000 in
set_option maxHeartbeats 4000000 in
theorem pX13_valueOf_ok (G : Gx) (dk : Nat) (hK : 2 ≤ dk) {g : MT} {h : CT} {this : Nat} {p1 : Int32} {p2 : Int32} {r0 : UInt64} (hf : pX13_valueOf g h this p1 p2 = some r0) : Ctr G dk yX13_valueOf cX13_valueOf 4 (some .double) [va_rf (some this), .int p1, .int p2] g h (some (.double r0)) g h := by
  refine Ctr.ofZ (lv := [(0, va_rf (some this)), (1, .int p1), (2, .int p2)]) (by decide +kernel) (by simp [cat_i, cat_l, cat_d, cat_rf]) rfl fun X Z => ?_
  unfold pX13_valueOf at hf
  replace hf := tg_i hf
  obtain ⟨t0, hf⟩ := hf
  refine J_aload_n Z.1 0 dX13_valueOf_0 rfl rfl ?_
  refine J_iload_n Z.1 1 dX13_valueOf_1 rfl rfl ?_
  refine J_iconst Z.1 (v := 0) (by decide) dX13_valueOf_2 ?_
  replace hf := bd_i hf
  obtain ⟨x1, q2, hf⟩ := hf
  refine J_callV (ci := 11) (as := [.int p1, .int 0]) (rest := []) (sy := [.int x1]) Z.1 dX13_valueOf_3 cw_X13_381 (pX13_at_ok G (dk - 1) (by omega) q2) rfl rfl t0 (zG Z) rfl (by decide) (zF Z (by omega)) (zO Z (by omega) (by decide)) (zM _) Z.2.1 Z.2.1 rfl rfl ?_
  refine J_istore_n Z.1 (lv2 := [(3, .int x1), (0, va_rf (some this)), (1, .int p1), (2, .int p2)]) dX13_valueOf_6 rfl (zL Z (by decide)) rfl ?_
  refine J_iload_n Z.1 0 dX13_valueOf_7 rfl rfl ?_
  refine J_iconst Z.1 (v := 1) (by decide) dX13_valueOf_8 ?_
  refine J_icmp_ne Z.1 15 dX13_valueOf_9 (by decide) (fun c3 => ?_) (fun c3 => ?_)
  · rw [if_neg c3] at hf
    refine J_iload_n Z.1 0 dX13_valueOf_15 rfl rfl ?_
    refine J_iconst Z.1 (v := 2) (by decide) dX13_valueOf_16 ?_
    refine J_icmp_ne Z.1 35 dX13_valueOf_17 (by decide) (fun c4 => ?_) (fun c4 => ?_)
    · rw [if_neg c4] at hf
      refine J_iload_n Z.1 0 dX13_valueOf_35 rfl rfl ?_
      refine J_callS (as := [.int x1]) (rest := []) (sy := [.int (pX13_isMemory x1)]) Z.1 dX13_valueOf_36 cw_X13_360 (pX13_isMemory_ok G (dk - 1) (by omega) g h x1) (zG Z) rfl (by decide) (zF Z (by omega)) (zO Z (by omega) (by decide)) (zM _) Z.2.1 Z.2.1 rfl rfl ?_
      refine J_if_eq Z.1 57 dX13_valueOf_39 (by decide) (fun c5 => ?_) (fun c5 => ?_)
      · rw [if_pos c5] at hf
        refine J_iload_n Z.1 0 dX13_valueOf_57 rfl rfl ?_
        refine J_aload_n Z.1 1 dX13_valueOf_58 rfl rfl ?_
        refine J_get (v := va_rf (hR h this 20)) Z.1 dX13_valueOf_59 fl_X13_34 t0 rfl ?_
        refine J_tr (fun r6 er6 => ?_)
        replace hf := lt_i hf r6 er6
        refine J_bipush Z.1 (v := 16) (by decide) dX13_valueOf_62 ?_
        refine J_aload_n Z.1 1 dX13_valueOf_64 rfl rfl ?_
        refine J_iload_n Z.1 2 dX13_valueOf_65 rfl rfl ?_
        refine J_iconst Z.1 (v := 2) (by decide) dX13_valueOf_66 ?_
        replace hf := bd_i hf
        obtain ⟨x7, q8, hf⟩ := hf
        refine J_callV (ci := 11) (as := [.int p1, .int 2]) (rest := [.int 16, va_rf r6, .int x1]) (sy := [.int x7, .int 16, va_rf r6, .int x1]) Z.1 dX13_valueOf_67 cw_X13_381 (pX13_at_ok G (dk - 1) (by omega) q8) rfl rfl t0 (zG Z) rfl (by simp [cat_i, cat_l, cat_d, cat_rf]) (zF Z (by omega)) (zO Z (by omega) (by decide)) (zM _) Z.2.1 Z.2.1 rfl rfl ?_
        refine J_imul Z.1 dX13_valueOf_70 ?_
        refine J_iload_n Z.1 3 dX13_valueOf_71 rfl rfl ?_
        refine J_iadd Z.1 dX13_valueOf_72 ?_
        replace hf := nn_i hf
        obtain ⟨a6, rfl, hf⟩ := hf
        replace hf := tg_i hf
        obtain ⟨t9, hf⟩ := hf
        replace hf := ix_i hf
        obtain ⟨i10, hf⟩ := hf
        refine J_daload Z.1 dX13_valueOf_73 t9 i10 ?_
        refine J_aload_n Z.1 1 dX13_valueOf_74 rfl rfl ?_
        refine J_get (v := va_rf (hR h this 20)) Z.1 dX13_valueOf_75 fl_X13_34 t0 rfl ?_
        refine J_tr (fun r11 er11 => ?_)
        replace hf := lt_i hf r11 er11
        refine J_bipush Z.1 (v := 16) (by decide) dX13_valueOf_78 ?_
        refine J_aload_n Z.1 1 dX13_valueOf_80 rfl rfl ?_
        refine J_iload_n Z.1 2 dX13_valueOf_81 rfl rfl ?_
        refine J_iconst Z.1 (v := 3) (by decide) dX13_valueOf_82 ?_
        replace hf := bd_i hf
        obtain ⟨x12, q13, hf⟩ := hf
        refine J_callV (ci := 11) (as := [.int p1, .int 3]) (rest := [.int 16, va_rf r11, .double (hD h a6 (Int32.toNatClampNeg ((16 * x7) + p2))), .int x1]) (sy := [.int x12, .int 16, va_rf r11, .double (hD h a6 (Int32.toNatClampNeg ((16 * x7) + p2))), .int x1]) Z.1 dX13_valueOf_83 cw_X13_381 (pX13_at_ok G (dk - 1) (by omega) q13) rfl rfl t0 (zG Z) rfl (by simp [cat_i, cat_l, cat_d, cat_rf]) (zF Z (by omega)) (zO Z (by omega) (by decide)) (zM _) Z.2.1 Z.2.1 rfl rfl ?_
        refine J_imul Z.1 dX13_valueOf_86 ?_
        refine J_iload_n Z.1 3 dX13_valueOf_87 rfl rfl ?_
        refine J_iadd Z.1 dX13_valueOf_88 ?_
        replace hf := nn_i hf
        obtain ⟨a11, rfl, hf⟩ := hf
        replace hf := tg_i hf
        obtain ⟨t14, hf⟩ := hf
        replace hf := ix_i hf
        obtain ⟨i15, hf⟩ := hf
        refine J_daload Z.1 dX13_valueOf_89 t14 i15 ?_
        refine J_callS (as := [.int x1, .double (hD h a6 (Int32.toNatClampNeg ((16 * x7) + p2))), .double (hD h a11 (Int32.toNatClampNeg ((16 * x12) + p2)))]) (rest := []) (sy := [.double (pX13_reckoned x1 (hD h a6 (Int32.toNatClampNeg ((16 * x7) + p2))) (hD h a11 (Int32.toNatClampNeg ((16 * x12) + p2))))]) Z.1 dX13_valueOf_90 cw_X13_453 (pX13_reckoned_ok G (dk - 1) (by omega) g h x1 (hD h a6 (Int32.toNatClampNeg ((16 * x7) + p2))) (hD h a11 (Int32.toNatClampNeg ((16 * x12) + p2)))) (zG Z) rfl (by decide) (zF Z (by omega)) (zO Z (by omega) (by decide)) (zM _) Z.2.1 Z.2.1 rfl rfl ?_
        cases hf
        exact J_dret Z.1 Z.2.2.2.2.2 dX13_valueOf_93
      · rw [if_neg c5] at hf
        refine J_aload_n Z.1 1 dX13_valueOf_42 rfl rfl ?_
        refine J_get (v := va_rf (hR h this 20)) Z.1 dX13_valueOf_43 fl_X13_34 t0 rfl ?_
        refine J_tr (fun r16 er16 => ?_)
        replace hf := lt_i hf r16 er16
        refine J_bipush Z.1 (v := 100) (by decide) dX13_valueOf_46 ?_
        refine J_aload_n Z.1 1 dX13_valueOf_48 rfl rfl ?_
        refine J_iload_n Z.1 2 dX13_valueOf_49 rfl rfl ?_
        refine J_iload_n Z.1 3 dX13_valueOf_50 rfl rfl ?_
        replace hf := bd_i hf
        obtain ⟨x17, q18, hf⟩ := hf
        refine J_callV (ci := 11) (as := [.int p1, .int p2]) (rest := [.int 100, va_rf r16]) (sy := [.int x17, .int 100, va_rf r16]) Z.1 dX13_valueOf_51 cw_X13_432 (pX13_placeOf_ok G (dk - 1) (by omega) q18) rfl rfl t0 (zG Z) rfl (by simp [cat_i, cat_l, cat_d, cat_rf]) (zF Z (by omega)) (zO Z (by omega) (by decide)) (zM _) Z.2.1 Z.2.1 rfl rfl ?_
        refine J_iadd Z.1 dX13_valueOf_54 ?_
        replace hf := nn_i hf
        obtain ⟨a16, rfl, hf⟩ := hf
        replace hf := tg_i hf
        obtain ⟨t19, hf⟩ := hf
        replace hf := ix_i hf
        obtain ⟨i20, hf⟩ := hf
        refine J_daload Z.1 dX13_valueOf_55 t19 i20 ?_
        cases hf
        exact J_dret Z.1 Z.2.2.2.2.2 dX13_valueOf_56
    · rw [if_pos c4] at hf
      refine J_aload_n Z.1 1 dX13_valueOf_20 rfl rfl ?_
      refine J_get (v := va_rf (hR h this 20)) Z.1 dX13_valueOf_21 fl_X13_34 t0 rfl ?_
      refine J_tr (fun r21 er21 => ?_)
      replace hf := lt_i hf r21 er21
      refine J_bipush Z.1 (v := 96) (by decide) dX13_valueOf_24 ?_
      refine J_aload_n Z.1 1 dX13_valueOf_26 rfl rfl ?_
      refine J_iload_n Z.1 2 dX13_valueOf_27 rfl rfl ?_
      refine J_iconst Z.1 (v := 5) (by decide) dX13_valueOf_28 ?_
      replace hf := bd_i hf
      obtain ⟨x22, q23, hf⟩ := hf
      refine J_callV (ci := 11) (as := [.int p1, .int 5]) (rest := [.int 96, va_rf r21]) (sy := [.int x22, .int 96, va_rf r21]) Z.1 dX13_valueOf_29 cw_X13_381 (pX13_at_ok G (dk - 1) (by omega) q23) rfl rfl t0 (zG Z) rfl (by simp [cat_i, cat_l, cat_d, cat_rf]) (zF Z (by omega)) (zO Z (by omega) (by decide)) (zM _) Z.2.1 Z.2.1 rfl rfl ?_
      refine J_iadd Z.1 dX13_valueOf_32 ?_
      replace hf := nn_i hf
      obtain ⟨a21, rfl, hf⟩ := hf
      replace hf := tg_i hf
      obtain ⟨t24, hf⟩ := hf
      replace hf := ix_i hf
      obtain ⟨i25, hf⟩ := hf
      refine J_daload Z.1 dX13_valueOf_33 t24 i25 ?_
      cases hf
      exact J_dret Z.1 Z.2.2.2.2.2 dX13_valueOf_34
  · rw [if_pos c3] at hf
    refine J_iload_n Z.1 3 dX13_valueOf_12 rfl rfl ?_
    refine J_i2d Z.1 dX13_valueOf_13 ?_
    cases hf
    exact J_dret Z.1 Z.2.2.2.2.2 dX13_valueOf_14
theorem dX13_comes_0 : decode cX13_comes 0 = .ok (.aload_n 0, 1) := by decide +kernel
theorem dX13_comes_1 : decode cX13_comes 1 = .ok (.iload_n 1, 1) := by decide +kernel
theorem dX13_comes_2 : decode cX13_comes 2 = .ok (.invokevirtual 304, 3) := by decide +kernel
theorem dX13_comes_5 : decode cX13_comes 5 = .ok (.aload_n 0, 1) := by decide +kernel
theorem dX13_comes_6 : decode cX13_comes 6 = .ok (.getfield 34, 3) := by decide +kernel
theorem dX13_comes_9 : decode cX13_comes 9 = .ok (.bipush 16, 2) := by decide +kernel
theorem dX13_comes_11 : decode cX13_comes 11 = .ok (.iload_n 1, 1) := by decide +kernel
theorem dX13_comes_12 : decode cX13_comes 12 = .ok (.imul, 1) := by decide +kernel
theorem dX13_comes_13 : decode cX13_comes 13 = .ok (.iload_n 2, 1) := by decide +kernel
theorem dX13_comes_14 : decode cX13_comes 14 = .ok (.iadd, 1) := by decide +kernel
theorem dX13_comes_15 : decode cX13_comes 15 = .ok (.dload_n 3, 1) := by decide +kernel
theorem dX13_comes_16 : decode cX13_comes 16 = .ok (.dastore, 1) := by decide +kernel
theorem dX13_comes_17 : decode cX13_comes 17 = .ok (.return_, 1) := by decide +kernel
def pX13_comes (g : MT) (h : CT) (this : Nat) (p1 : Int32) (p2 : Int32) (p3 : UInt64) : Option CT := tg g this 12 (bd (pX13_there g h this p1) fun h1 => (lt (hR h1 this 20) fun r3 => (nn r3 fun a3 => (tg g a3 22 (ix (gL g a3) ((16 * p1) + p2) (lt (sD h1 a3 (Int32.toNatClampNeg ((16 * p1) + p2)) p3) fun h6 => (some h6)))))))
set_option maxRecDepth 10000 in
set_option maxHeartbeats 4000000 in
theorem pX13_comes_ok (G : Gx) (dk : Nat) (hK : 2 ≤ dk) {g : MT} {h h0 : CT} {this : Nat} {p1 : Int32} {p2 : Int32} {p3 : UInt64} (hf : pX13_comes g h this p1 p2 p3 = some h0) : Ctr G dk yX13_comes cX13_comes 5 none [va_rf (some this), .int p1, .int p2, .double p3] g h none g h0 := by
  refine Ctr.ofZ (lv := [(0, va_rf (some this)), (1, .int p1), (2, .int p2), (3, .double p3)]) (by decide +kernel) (by simp [cat_i, cat_l, cat_d, cat_rf]) rfl fun X Z => ?_
  unfold pX13_comes at hf
  replace hf := tg_i hf
  obtain ⟨t0, hf⟩ := hf
  refine J_aload_n Z.1 0 dX13_comes_0 rfl rfl ?_
  refine J_iload_n Z.1 1 dX13_comes_1 rfl rfl ?_
  replace hf := bd_i hf
  obtain ⟨h1, q2, hf⟩ := hf
  refine J_callV (ci := 11) (as := [.int p1]) (rest := []) (sy := []) Z.1 dX13_comes_2 cw_X13_304 (pX13_there_ok G (dk - 1) (by omega) q2) rfl rfl t0 (zG Z) rfl (by decide) (zF Z (by omega)) (zO Z (by omega) (by decide)) (zM _) Z.2.1 Z.2.1 rfl rfl ?_
  refine J_aload_n Z.1 0 dX13_comes_5 rfl rfl ?_
  refine J_get (v := va_rf (hR h1 this 20)) Z.1 dX13_comes_6 fl_X13_34 t0 rfl ?_
  refine J_tr (fun r3 er3 => ?_)
  replace hf := lt_i hf r3 er3
  refine J_bipush Z.1 (v := 16) (by decide) dX13_comes_9 ?_
  refine J_iload_n Z.1 1 dX13_comes_11 rfl rfl ?_
  refine J_imul Z.1 dX13_comes_12 ?_
  refine J_iload_n Z.1 2 dX13_comes_13 rfl rfl ?_
  refine J_iadd Z.1 dX13_comes_14 ?_
  refine J_dload_n Z.1 3 dX13_comes_15 rfl rfl ?_
  replace hf := nn_i hf
  obtain ⟨a3, rfl, hf⟩ := hf
  replace hf := tg_i hf
  obtain ⟨t4, hf⟩ := hf
  replace hf := ix_i hf
  obtain ⟨i5, hf⟩ := hf
  refine J_dastore Z.1 dX13_comes_16 t4 i5 ?_
  refine J_th (fun h6 eh6 => ?_)
  replace hf := lt_i hf h6 eh6
  cases hf
  exact J_vret Z.1 Z.2.2.2.2.2 dX13_comes_17
