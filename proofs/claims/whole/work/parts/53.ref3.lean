/-! written by wip/whole/gen.py out of the printed bytecode -/
theorem dX13_twoWord_0 : decode cX13_twoWord 0 = .ok (.aload_n 0, 1) := by decide +kernel
theorem dX13_twoWord_1 : decode cX13_twoWord 1 = .ok (.bipush 97, 2) := by decide +kernel
theorem dX13_twoWord_3 : decode cX13_twoWord 3 = .ok (.bipush 100, 2) := by decide +kernel
theorem dX13_twoWord_5 : decode cX13_twoWord 5 = .ok (.bipush 100, 2) := by decide +kernel
theorem dX13_twoWord_7 : decode cX13_twoWord 7 = .ok (.iconst 0, 1) := by decide +kernel
theorem dX13_twoWord_8 : decode cX13_twoWord 8 = .ok (.iconst 0, 1) := by decide +kernel
theorem dX13_twoWord_9 : decode cX13_twoWord 9 = .ok (.iconst 0, 1) := by decide +kernel
theorem dX13_twoWord_10 : decode cX13_twoWord 10 = .ok (.invokestatic 161, 3) := by decide +kernel
theorem dX13_twoWord_13 : decode cX13_twoWord 13 = .ok (.invokevirtual 165, 3) := by decide +kernel
theorem dX13_twoWord_16 : decode cX13_twoWord 16 = .ok (.ifCond .eq 6, 3) := by decide +kernel
theorem dX13_twoWord_19 : decode cX13_twoWord 19 = .ok (.bipush 7, 2) := by decide +kernel
theorem dX13_twoWord_21 : decode cX13_twoWord 21 = .ok (.ireturn, 1) := by decide +kernel
theorem dX13_twoWord_22 : decode cX13_twoWord 22 = .ok (.aload_n 0, 1) := by decide +kernel
theorem dX13_twoWord_23 : decode cX13_twoWord 23 = .ok (.bipush 115, 2) := by decide +kernel
theorem dX13_twoWord_25 : decode cX13_twoWord 25 = .ok (.bipush 117, 2) := by decide +kernel
theorem dX13_twoWord_27 : decode cX13_twoWord 27 = .ok (.bipush 98, 2) := by decide +kernel
theorem dX13_twoWord_29 : decode cX13_twoWord 29 = .ok (.iconst 0, 1) := by decide +kernel
theorem dX13_twoWord_30 : decode cX13_twoWord 30 = .ok (.iconst 0, 1) := by decide +kernel
theorem dX13_twoWord_31 : decode cX13_twoWord 31 = .ok (.iconst 0, 1) := by decide +kernel
theorem dX13_twoWord_32 : decode cX13_twoWord 32 = .ok (.invokestatic 161, 3) := by decide +kernel
theorem dX13_twoWord_35 : decode cX13_twoWord 35 = .ok (.invokevirtual 165, 3) := by decide +kernel
theorem dX13_twoWord_38 : decode cX13_twoWord 38 = .ok (.ifCond .eq 6, 3) := by decide +kernel
theorem dX13_twoWord_41 : decode cX13_twoWord 41 = .ok (.bipush 8, 2) := by decide +kernel
theorem dX13_twoWord_43 : decode cX13_twoWord 43 = .ok (.ireturn, 1) := by decide +kernel
theorem dX13_twoWord_44 : decode cX13_twoWord 44 = .ok (.aload_n 0, 1) := by decide +kernel
theorem dX13_twoWord_45 : decode cX13_twoWord 45 = .ok (.bipush 109, 2) := by decide +kernel
theorem dX13_twoWord_47 : decode cX13_twoWord 47 = .ok (.bipush 117, 2) := by decide +kernel
theorem dX13_twoWord_49 : decode cX13_twoWord 49 = .ok (.bipush 108, 2) := by decide +kernel
theorem dX13_twoWord_51 : decode cX13_twoWord 51 = .ok (.iconst 0, 1) := by decide +kernel
theorem dX13_twoWord_52 : decode cX13_twoWord 52 = .ok (.iconst 0, 1) := by decide +kernel
theorem dX13_twoWord_53 : decode cX13_twoWord 53 = .ok (.iconst 0, 1) := by decide +kernel
theorem dX13_twoWord_54 : decode cX13_twoWord 54 = .ok (.invokestatic 161, 3) := by decide +kernel
theorem dX13_twoWord_57 : decode cX13_twoWord 57 = .ok (.invokevirtual 165, 3) := by decide +kernel
theorem dX13_twoWord_60 : decode cX13_twoWord 60 = .ok (.ifCond .eq 6, 3) := by decide +kernel
theorem dX13_twoWord_63 : decode cX13_twoWord 63 = .ok (.bipush 9, 2) := by decide +kernel
theorem dX13_twoWord_65 : decode cX13_twoWord 65 = .ok (.ireturn, 1) := by decide +kernel
theorem dX13_twoWord_66 : decode cX13_twoWord 66 = .ok (.aload_n 0, 1) := by decide +kernel
theorem dX13_twoWord_67 : decode cX13_twoWord 67 = .ok (.bipush 100, 2) := by decide +kernel
theorem dX13_twoWord_69 : decode cX13_twoWord 69 = .ok (.bipush 105, 2) := by decide +kernel
theorem dX13_twoWord_71 : decode cX13_twoWord 71 = .ok (.bipush 118, 2) := by decide +kernel
theorem dX13_twoWord_73 : decode cX13_twoWord 73 = .ok (.iconst 0, 1) := by decide +kernel
theorem dX13_twoWord_74 : decode cX13_twoWord 74 = .ok (.iconst 0, 1) := by decide +kernel
theorem dX13_twoWord_75 : decode cX13_twoWord 75 = .ok (.iconst 0, 1) := by decide +kernel
theorem dX13_twoWord_76 : decode cX13_twoWord 76 = .ok (.invokestatic 161, 3) := by decide +kernel
theorem dX13_twoWord_79 : decode cX13_twoWord 79 = .ok (.invokevirtual 165, 3) := by decide +kernel
theorem dX13_twoWord_82 : decode cX13_twoWord 82 = .ok (.ifCond .eq 6, 3) := by decide +kernel
theorem dX13_twoWord_85 : decode cX13_twoWord 85 = .ok (.bipush 10, 2) := by decide +kernel
theorem dX13_twoWord_87 : decode cX13_twoWord 87 = .ok (.ireturn, 1) := by decide +kernel
theorem dX13_twoWord_88 : decode cX13_twoWord 88 = .ok (.aload_n 0, 1) := by decide +kernel
theorem dX13_twoWord_89 : decode cX13_twoWord 89 = .ok (.bipush 114, 2) := by decide +kernel
theorem dX13_twoWord_91 : decode cX13_twoWord 91 = .ok (.bipush 101, 2) := by decide +kernel
theorem dX13_twoWord_93 : decode cX13_twoWord 93 = .ok (.bipush 109, 2) := by decide +kernel
theorem dX13_twoWord_95 : decode cX13_twoWord 95 = .ok (.iconst 0, 1) := by decide +kernel
theorem dX13_twoWord_96 : decode cX13_twoWord 96 = .ok (.iconst 0, 1) := by decide +kernel
theorem dX13_twoWord_97 : decode cX13_twoWord 97 = .ok (.iconst 0, 1) := by decide +kernel
theorem dX13_twoWord_98 : decode cX13_twoWord 98 = .ok (.invokestatic 161, 3) := by decide +kernel
theorem dX13_twoWord_101 : decode cX13_twoWord 101 = .ok (.invokevirtual 165, 3) := by decide +kernel
theorem dX13_twoWord_104 : decode cX13_twoWord 104 = .ok (.ifCond .eq 6, 3) := by decide +kernel
theorem dX13_twoWord_107 : decode cX13_twoWord 107 = .ok (.bipush 11, 2) := by decide +kernel
theorem dX13_twoWord_109 : decode cX13_twoWord 109 = .ok (.ireturn, 1) := by decide +kernel
theorem dX13_twoWord_110 : decode cX13_twoWord 110 = .ok (.aload_n 0, 1) := by decide +kernel
theorem dX13_twoWord_111 : decode cX13_twoWord 111 = .ok (.bipush 109, 2) := by decide +kernel
theorem dX13_twoWord_113 : decode cX13_twoWord 113 = .ok (.bipush 105, 2) := by decide +kernel
theorem dX13_twoWord_115 : decode cX13_twoWord 115 = .ok (.bipush 110, 2) := by decide +kernel
theorem dX13_twoWord_117 : decode cX13_twoWord 117 = .ok (.iconst 0, 1) := by decide +kernel
theorem dX13_twoWord_118 : decode cX13_twoWord 118 = .ok (.iconst 0, 1) := by decide +kernel
theorem dX13_twoWord_119 : decode cX13_twoWord 119 = .ok (.iconst 0, 1) := by decide +kernel
theorem dX13_twoWord_120 : decode cX13_twoWord 120 = .ok (.invokestatic 161, 3) := by decide +kernel
theorem dX13_twoWord_123 : decode cX13_twoWord 123 = .ok (.invokevirtual 165, 3) := by decide +kernel
theorem dX13_twoWord_126 : decode cX13_twoWord 126 = .ok (.ifCond .eq 6, 3) := by decide +kernel
theorem dX13_twoWord_129 : decode cX13_twoWord 129 = .ok (.bipush 12, 2) := by decide +kernel
theorem dX13_twoWord_131 : decode cX13_twoWord 131 = .ok (.ireturn, 1) := by decide +kernel
theorem dX13_twoWord_132 : decode cX13_twoWord 132 = .ok (.aload_n 0, 1) := by decide +kernel
theorem dX13_twoWord_133 : decode cX13_twoWord 133 = .ok (.bipush 109, 2) := by decide +kernel
theorem dX13_twoWord_135 : decode cX13_twoWord 135 = .ok (.bipush 97, 2) := by decide +kernel
theorem dX13_twoWord_137 : decode cX13_twoWord 137 = .ok (.bipush 120, 2) := by decide +kernel
theorem dX13_twoWord_139 : decode cX13_twoWord 139 = .ok (.iconst 0, 1) := by decide +kernel
theorem dX13_twoWord_140 : decode cX13_twoWord 140 = .ok (.iconst 0, 1) := by decide +kernel
theorem dX13_twoWord_141 : decode cX13_twoWord 141 = .ok (.iconst 0, 1) := by decide +kernel
theorem dX13_twoWord_142 : decode cX13_twoWord 142 = .ok (.invokestatic 161, 3) := by decide +kernel
theorem dX13_twoWord_145 : decode cX13_twoWord 145 = .ok (.invokevirtual 165, 3) := by decide +kernel
theorem dX13_twoWord_148 : decode cX13_twoWord 148 = .ok (.ifCond .eq 8, 3) := by decide +kernel
theorem dX13_twoWord_151 : decode cX13_twoWord 151 = .ok (.bipush 13, 2) := by decide +kernel
theorem dX13_twoWord_153 : decode cX13_twoWord 153 = .ok (.goto 4, 3) := by decide +kernel
theorem dX13_twoWord_156 : decode cX13_twoWord 156 = .ok (.iconst (-1), 1) := by decide +kernel
theorem dX13_twoWord_157 : decode cX13_twoWord 157 = .ok (.ireturn, 1) := by decide +kernel
def pX13_twoWord (g : MT) (h : CT) (this : Nat) : Option Int32 := tg g this 12 (bd (pX13_isWord g h this (pX13_spelled 97 100 100 0 0 0)) fun x1 => (if x1 = 0 then bd (pX13_isWord g h this (pX13_spelled 115 117 98 0 0 0)) fun x4 => (if x4 = 0 then bd (pX13_isWord g h this (pX13_spelled 109 117 108 0 0 0)) fun x7 => (if x7 = 0 then bd (pX13_isWord g h this (pX13_spelled 100 105 118 0 0 0)) fun x10 => (if x10 = 0 then bd (pX13_isWord g h this (pX13_spelled 114 101 109 0 0 0)) fun x13 => (if x13 = 0 then bd (pX13_isWord g h this (pX13_spelled 109 105 110 0 0 0)) fun x16 => (if x16 = 0 then bd (pX13_isWord g h this (pX13_spelled 109 97 120 0 0 0)) fun x19 => (if x19 = 0 then some (-1) else some 13) else some 12) else some 11) else some 10) else some 9) else some 8) else some 7))
set_option maxRecDepth 10000 in
set_option maxHeartbeats 4000000 in
theorem pX13_twoWord_ok (G : Gx) (dk : Nat) (hK : 1 ≤ dk) {g : MT} {h : CT} {this : Nat} {r0 : Int32} (hf : pX13_twoWord g h this = some r0) : Ctr G dk yX13_twoWord cX13_twoWord 1 (some .int) [va_rf (some this)] g h (some (.int r0)) g h := by
  refine Ctr.ofZ (lv := [(0, va_rf (some this))]) (by decide +kernel) (by simp [cat_i, cat_l, cat_d, cat_rf]) rfl fun X Z => ?_
  unfold pX13_twoWord at hf
  replace hf := tg_i hf
  obtain ⟨t0, hf⟩ := hf
  refine J_aload_n Z.1 0 dX13_twoWord_0 rfl rfl ?_
  refine J_bipush Z.1 (v := 97) (by decide) dX13_twoWord_1 ?_
  refine J_bipush Z.1 (v := 100) (by decide) dX13_twoWord_3 ?_
  refine J_bipush Z.1 (v := 100) (by decide) dX13_twoWord_5 ?_
  refine J_iconst Z.1 (v := 0) (by decide) dX13_twoWord_7 ?_
  refine J_iconst Z.1 (v := 0) (by decide) dX13_twoWord_8 ?_
  refine J_iconst Z.1 (v := 0) (by decide) dX13_twoWord_9 ?_
  refine J_callS (as := [.int 97, .int 100, .int 100, .int 0, .int 0, .int 0]) (rest := [va_rf (some this)]) (sy := [.long (pX13_spelled 97 100 100 0 0 0), va_rf (some this)]) Z.1 dX13_twoWord_10 cw_X13_161 (pX13_spelled_ok G (dk - 1) (by omega) g h 97 100 100 0 0 0) (zG Z) rfl (by simp [cat_i, cat_l, cat_d, cat_rf]) (zF Z (by omega)) (zO Z (by omega) (by decide)) (zM _) Z.2.1 Z.2.1 rfl rfl ?_
  replace hf := bd_i hf
  obtain ⟨x1, q2, hf⟩ := hf
  refine J_callV (ci := 11) (as := [.long (pX13_spelled 97 100 100 0 0 0)]) (rest := []) (sy := [.int x1]) Z.1 dX13_twoWord_13 cw_X13_165 (pX13_isWord_ok G (dk - 1) (by omega) q2) rfl rfl t0 (zG Z) rfl (by decide) (zF Z (by omega)) (zO Z (by omega) (by decide)) (zM _) Z.2.1 Z.2.1 rfl rfl ?_
  refine J_if_eq Z.1 22 dX13_twoWord_16 (by decide) (fun c3 => ?_) (fun c3 => ?_)
  · rw [if_pos c3] at hf
    refine J_aload_n Z.1 0 dX13_twoWord_22 rfl rfl ?_
    refine J_bipush Z.1 (v := 115) (by decide) dX13_twoWord_23 ?_
    refine J_bipush Z.1 (v := 117) (by decide) dX13_twoWord_25 ?_
    refine J_bipush Z.1 (v := 98) (by decide) dX13_twoWord_27 ?_
    refine J_iconst Z.1 (v := 0) (by decide) dX13_twoWord_29 ?_
    refine J_iconst Z.1 (v := 0) (by decide) dX13_twoWord_30 ?_
    refine J_iconst Z.1 (v := 0) (by decide) dX13_twoWord_31 ?_
    refine J_callS (as := [.int 115, .int 117, .int 98, .int 0, .int 0, .int 0]) (rest := [va_rf (some this)]) (sy := [.long (pX13_spelled 115 117 98 0 0 0), va_rf (some this)]) Z.1 dX13_twoWord_32 cw_X13_161 (pX13_spelled_ok G (dk - 1) (by omega) g h 115 117 98 0 0 0) (zG Z) rfl (by simp [cat_i, cat_l, cat_d, cat_rf]) (zF Z (by omega)) (zO Z (by omega) (by decide)) (zM _) Z.2.1 Z.2.1 rfl rfl ?_
    replace hf := bd_i hf
    obtain ⟨x4, q5, hf⟩ := hf
    refine J_callV (ci := 11) (as := [.long (pX13_spelled 115 117 98 0 0 0)]) (rest := []) (sy := [.int x4]) Z.1 dX13_twoWord_35 cw_X13_165 (pX13_isWord_ok G (dk - 1) (by omega) q5) rfl rfl t0 (zG Z) rfl (by decide) (zF Z (by omega)) (zO Z (by omega) (by decide)) (zM _) Z.2.1 Z.2.1 rfl rfl ?_
    refine J_if_eq Z.1 44 dX13_twoWord_38 (by decide) (fun c6 => ?_) (fun c6 => ?_)
    · rw [if_pos c6] at hf
      refine J_aload_n Z.1 0 dX13_twoWord_44 rfl rfl ?_
      refine J_bipush Z.1 (v := 109) (by decide) dX13_twoWord_45 ?_
      refine J_bipush Z.1 (v := 117) (by decide) dX13_twoWord_47 ?_
      refine J_bipush Z.1 (v := 108) (by decide) dX13_twoWord_49 ?_
      refine J_iconst Z.1 (v := 0) (by decide) dX13_twoWord_51 ?_
      refine J_iconst Z.1 (v := 0) (by decide) dX13_twoWord_52 ?_
      refine J_iconst Z.1 (v := 0) (by decide) dX13_twoWord_53 ?_
      refine J_callS (as := [.int 109, .int 117, .int 108, .int 0, .int 0, .int 0]) (rest := [va_rf (some this)]) (sy := [.long (pX13_spelled 109 117 108 0 0 0), va_rf (some this)]) Z.1 dX13_twoWord_54 cw_X13_161 (pX13_spelled_ok G (dk - 1) (by omega) g h 109 117 108 0 0 0) (zG Z) rfl (by simp [cat_i, cat_l, cat_d, cat_rf]) (zF Z (by omega)) (zO Z (by omega) (by decide)) (zM _) Z.2.1 Z.2.1 rfl rfl ?_
      replace hf := bd_i hf
      obtain ⟨x7, q8, hf⟩ := hf
      refine J_callV (ci := 11) (as := [.long (pX13_spelled 109 117 108 0 0 0)]) (rest := []) (sy := [.int x7]) Z.1 dX13_twoWord_57 cw_X13_165 (pX13_isWord_ok G (dk - 1) (by omega) q8) rfl rfl t0 (zG Z) rfl (by decide) (zF Z (by omega)) (zO Z (by omega) (by decide)) (zM _) Z.2.1 Z.2.1 rfl rfl ?_
      refine J_if_eq Z.1 66 dX13_twoWord_60 (by decide) (fun c9 => ?_) (fun c9 => ?_)
      · rw [if_pos c9] at hf
        refine J_aload_n Z.1 0 dX13_twoWord_66 rfl rfl ?_
        refine J_bipush Z.1 (v := 100) (by decide) dX13_twoWord_67 ?_
        refine J_bipush Z.1 (v := 105) (by decide) dX13_twoWord_69 ?_
        refine J_bipush Z.1 (v := 118) (by decide) dX13_twoWord_71 ?_
        refine J_iconst Z.1 (v := 0) (by decide) dX13_twoWord_73 ?_
        refine J_iconst Z.1 (v := 0) (by decide) dX13_twoWord_74 ?_
        refine J_iconst Z.1 (v := 0) (by decide) dX13_twoWord_75 ?_
        refine J_callS (as := [.int 100, .int 105, .int 118, .int 0, .int 0, .int 0]) (rest := [va_rf (some this)]) (sy := [.long (pX13_spelled 100 105 118 0 0 0), va_rf (some this)]) Z.1 dX13_twoWord_76 cw_X13_161 (pX13_spelled_ok G (dk - 1) (by omega) g h 100 105 118 0 0 0) (zG Z) rfl (by simp [cat_i, cat_l, cat_d, cat_rf]) (zF Z (by omega)) (zO Z (by omega) (by decide)) (zM _) Z.2.1 Z.2.1 rfl rfl ?_
        replace hf := bd_i hf
        obtain ⟨x10, q11, hf⟩ := hf
        refine J_callV (ci := 11) (as := [.long (pX13_spelled 100 105 118 0 0 0)]) (rest := []) (sy := [.int x10]) Z.1 dX13_twoWord_79 cw_X13_165 (pX13_isWord_ok G (dk - 1) (by omega) q11) rfl rfl t0 (zG Z) rfl (by decide) (zF Z (by omega)) (zO Z (by omega) (by decide)) (zM _) Z.2.1 Z.2.1 rfl rfl ?_
        refine J_if_eq Z.1 88 dX13_twoWord_82 (by decide) (fun c12 => ?_) (fun c12 => ?_)
        · rw [if_pos c12] at hf
          refine J_aload_n Z.1 0 dX13_twoWord_88 rfl rfl ?_
          refine J_bipush Z.1 (v := 114) (by decide) dX13_twoWord_89 ?_
          refine J_bipush Z.1 (v := 101) (by decide) dX13_twoWord_91 ?_
          refine J_bipush Z.1 (v := 109) (by decide) dX13_twoWord_93 ?_
          refine J_iconst Z.1 (v := 0) (by decide) dX13_twoWord_95 ?_
          refine J_iconst Z.1 (v := 0) (by decide) dX13_twoWord_96 ?_
          refine J_iconst Z.1 (v := 0) (by decide) dX13_twoWord_97 ?_
          refine J_callS (as := [.int 114, .int 101, .int 109, .int 0, .int 0, .int 0]) (rest := [va_rf (some this)]) (sy := [.long (pX13_spelled 114 101 109 0 0 0), va_rf (some this)]) Z.1 dX13_twoWord_98 cw_X13_161 (pX13_spelled_ok G (dk - 1) (by omega) g h 114 101 109 0 0 0) (zG Z) rfl (by simp [cat_i, cat_l, cat_d, cat_rf]) (zF Z (by omega)) (zO Z (by omega) (by decide)) (zM _) Z.2.1 Z.2.1 rfl rfl ?_
          replace hf := bd_i hf
          obtain ⟨x13, q14, hf⟩ := hf
          refine J_callV (ci := 11) (as := [.long (pX13_spelled 114 101 109 0 0 0)]) (rest := []) (sy := [.int x13]) Z.1 dX13_twoWord_101 cw_X13_165 (pX13_isWord_ok G (dk - 1) (by omega) q14) rfl rfl t0 (zG Z) rfl (by decide) (zF Z (by omega)) (zO Z (by omega) (by decide)) (zM _) Z.2.1 Z.2.1 rfl rfl ?_
          refine J_if_eq Z.1 110 dX13_twoWord_104 (by decide) (fun c15 => ?_) (fun c15 => ?_)
          · rw [if_pos c15] at hf
            refine J_aload_n Z.1 0 dX13_twoWord_110 rfl rfl ?_
            refine J_bipush Z.1 (v := 109) (by decide) dX13_twoWord_111 ?_
            refine J_bipush Z.1 (v := 105) (by decide) dX13_twoWord_113 ?_
            refine J_bipush Z.1 (v := 110) (by decide) dX13_twoWord_115 ?_
            refine J_iconst Z.1 (v := 0) (by decide) dX13_twoWord_117 ?_
            refine J_iconst Z.1 (v := 0) (by decide) dX13_twoWord_118 ?_
            refine J_iconst Z.1 (v := 0) (by decide) dX13_twoWord_119 ?_
            refine J_callS (as := [.int 109, .int 105, .int 110, .int 0, .int 0, .int 0]) (rest := [va_rf (some this)]) (sy := [.long (pX13_spelled 109 105 110 0 0 0), va_rf (some this)]) Z.1 dX13_twoWord_120 cw_X13_161 (pX13_spelled_ok G (dk - 1) (by omega) g h 109 105 110 0 0 0) (zG Z) rfl (by simp [cat_i, cat_l, cat_d, cat_rf]) (zF Z (by omega)) (zO Z (by omega) (by decide)) (zM _) Z.2.1 Z.2.1 rfl rfl ?_
            replace hf := bd_i hf
            obtain ⟨x16, q17, hf⟩ := hf
            refine J_callV (ci := 11) (as := [.long (pX13_spelled 109 105 110 0 0 0)]) (rest := []) (sy := [.int x16]) Z.1 dX13_twoWord_123 cw_X13_165 (pX13_isWord_ok G (dk - 1) (by omega) q17) rfl rfl t0 (zG Z) rfl (by decide) (zF Z (by omega)) (zO Z (by omega) (by decide)) (zM _) Z.2.1 Z.2.1 rfl rfl ?_
            refine J_if_eq Z.1 132 dX13_twoWord_126 (by decide) (fun c18 => ?_) (fun c18 => ?_)
            · rw [if_pos c18] at hf
              refine J_aload_n Z.1 0 dX13_twoWord_132 rfl rfl ?_
              refine J_bipush Z.1 (v := 109) (by decide) dX13_twoWord_133 ?_
              refine J_bipush Z.1 (v := 97) (by decide) dX13_twoWord_135 ?_
              refine J_bipush Z.1 (v := 120) (by decide) dX13_twoWord_137 ?_
              refine J_iconst Z.1 (v := 0) (by decide) dX13_twoWord_139 ?_
              refine J_iconst Z.1 (v := 0) (by decide) dX13_twoWord_140 ?_
              refine J_iconst Z.1 (v := 0) (by decide) dX13_twoWord_141 ?_
              refine J_callS (as := [.int 109, .int 97, .int 120, .int 0, .int 0, .int 0]) (rest := [va_rf (some this)]) (sy := [.long (pX13_spelled 109 97 120 0 0 0), va_rf (some this)]) Z.1 dX13_twoWord_142 cw_X13_161 (pX13_spelled_ok G (dk - 1) (by omega) g h 109 97 120 0 0 0) (zG Z) rfl (by simp [cat_i, cat_l, cat_d, cat_rf]) (zF Z (by omega)) (zO Z (by omega) (by decide)) (zM _) Z.2.1 Z.2.1 rfl rfl ?_
              replace hf := bd_i hf
              obtain ⟨x19, q20, hf⟩ := hf
              refine J_callV (ci := 11) (as := [.long (pX13_spelled 109 97 120 0 0 0)]) (rest := []) (sy := [.int x19]) Z.1 dX13_twoWord_145 cw_X13_165 (pX13_isWord_ok G (dk - 1) (by omega) q20) rfl rfl t0 (zG Z) rfl (by decide) (zF Z (by omega)) (zO Z (by omega) (by decide)) (zM _) Z.2.1 Z.2.1 rfl rfl ?_
              refine J_if_eq Z.1 156 dX13_twoWord_148 (by decide) (fun c21 => ?_) (fun c21 => ?_)
              · rw [if_pos c21] at hf
                refine J_iconst Z.1 (v := (-1)) (by decide) dX13_twoWord_156 ?_
                cases hf
                exact J_iret Z.1 Z.2.2.2.2.2 dX13_twoWord_157
              · rw [if_neg c21] at hf
                refine J_bipush Z.1 (v := 13) (by decide) dX13_twoWord_151 ?_
                refine J_goto Z.1 157 dX13_twoWord_153 (by decide) ?_
                cases hf
                exact J_iret Z.1 Z.2.2.2.2.2 dX13_twoWord_157
            · rw [if_neg c18] at hf
              refine J_bipush Z.1 (v := 12) (by decide) dX13_twoWord_129 ?_
              cases hf
              exact J_iret Z.1 Z.2.2.2.2.2 dX13_twoWord_131
          · rw [if_neg c15] at hf
            refine J_bipush Z.1 (v := 11) (by decide) dX13_twoWord_107 ?_
            cases hf
            exact J_iret Z.1 Z.2.2.2.2.2 dX13_twoWord_109
        · rw [if_neg c12] at hf
          refine J_bipush Z.1 (v := 10) (by decide) dX13_twoWord_85 ?_
          cases hf
          exact J_iret Z.1 Z.2.2.2.2.2 dX13_twoWord_87
      · rw [if_neg c9] at hf
        refine J_bipush Z.1 (v := 9) (by decide) dX13_twoWord_63 ?_
        cases hf
        exact J_iret Z.1 Z.2.2.2.2.2 dX13_twoWord_65
    · rw [if_neg c6] at hf
      refine J_bipush Z.1 (v := 8) (by decide) dX13_twoWord_41 ?_
      cases hf
      exact J_iret Z.1 Z.2.2.2.2.2 dX13_twoWord_43
  · rw [if_neg c3] at hf
    refine J_bipush Z.1 (v := 7) (by decide) dX13_twoWord_19 ?_
    cases hf
    exact J_iret Z.1 Z.2.2.2.2.2 dX13_twoWord_21
theorem dX13_oneWord_0 : decode cX13_oneWord 0 = .ok (.aload_n 0, 1) := by decide +kernel
theorem dX13_oneWord_1 : decode cX13_oneWord 1 = .ok (.bipush 99, 2) := by decide +kernel
theorem dX13_oneWord_3 : decode cX13_oneWord 3 = .ok (.bipush 111, 2) := by decide +kernel
theorem dX13_oneWord_5 : decode cX13_oneWord 5 = .ok (.bipush 112, 2) := by decide +kernel
theorem dX13_oneWord_7 : decode cX13_oneWord 7 = .ok (.bipush 121, 2) := by decide +kernel
theorem dX13_oneWord_9 : decode cX13_oneWord 9 = .ok (.iconst 0, 1) := by decide +kernel
theorem dX13_oneWord_10 : decode cX13_oneWord 10 = .ok (.iconst 0, 1) := by decide +kernel
theorem dX13_oneWord_11 : decode cX13_oneWord 11 = .ok (.invokestatic 161, 3) := by decide +kernel
theorem dX13_oneWord_14 : decode cX13_oneWord 14 = .ok (.invokevirtual 165, 3) := by decide +kernel
theorem dX13_oneWord_17 : decode cX13_oneWord 17 = .ok (.ifCond .eq 6, 3) := by decide +kernel
theorem dX13_oneWord_20 : decode cX13_oneWord 20 = .ok (.bipush 14, 2) := by decide +kernel
theorem dX13_oneWord_22 : decode cX13_oneWord 22 = .ok (.ireturn, 1) := by decide +kernel
theorem dX13_oneWord_23 : decode cX13_oneWord 23 = .ok (.aload_n 0, 1) := by decide +kernel
theorem dX13_oneWord_24 : decode cX13_oneWord 24 = .ok (.bipush 115, 2) := by decide +kernel
theorem dX13_oneWord_26 : decode cX13_oneWord 26 = .ok (.bipush 105, 2) := by decide +kernel
theorem dX13_oneWord_28 : decode cX13_oneWord 28 = .ok (.bipush 110, 2) := by decide +kernel
theorem dX13_oneWord_30 : decode cX13_oneWord 30 = .ok (.bipush 103, 2) := by decide +kernel
theorem dX13_oneWord_32 : decode cX13_oneWord 32 = .ok (.bipush 108, 2) := by decide +kernel
theorem dX13_oneWord_34 : decode cX13_oneWord 34 = .ok (.bipush 101, 2) := by decide +kernel
theorem dX13_oneWord_36 : decode cX13_oneWord 36 = .ok (.invokestatic 161, 3) := by decide +kernel
theorem dX13_oneWord_39 : decode cX13_oneWord 39 = .ok (.invokevirtual 165, 3) := by decide +kernel
theorem dX13_oneWord_42 : decode cX13_oneWord 42 = .ok (.ifCond .eq 6, 3) := by decide +kernel
theorem dX13_oneWord_45 : decode cX13_oneWord 45 = .ok (.bipush 15, 2) := by decide +kernel
theorem dX13_oneWord_47 : decode cX13_oneWord 47 = .ok (.ireturn, 1) := by decide +kernel
theorem dX13_oneWord_48 : decode cX13_oneWord 48 = .ok (.aload_n 0, 1) := by decide +kernel
theorem dX13_oneWord_49 : decode cX13_oneWord 49 = .ok (.bipush 119, 2) := by decide +kernel
theorem dX13_oneWord_51 : decode cX13_oneWord 51 = .ok (.bipush 104, 2) := by decide +kernel
theorem dX13_oneWord_53 : decode cX13_oneWord 53 = .ok (.bipush 111, 2) := by decide +kernel
theorem dX13_oneWord_55 : decode cX13_oneWord 55 = .ok (.bipush 108, 2) := by decide +kernel
theorem dX13_oneWord_57 : decode cX13_oneWord 57 = .ok (.bipush 101, 2) := by decide +kernel
theorem dX13_oneWord_59 : decode cX13_oneWord 59 = .ok (.iconst 0, 1) := by decide +kernel
theorem dX13_oneWord_60 : decode cX13_oneWord 60 = .ok (.invokestatic 161, 3) := by decide +kernel
theorem dX13_oneWord_63 : decode cX13_oneWord 63 = .ok (.invokevirtual 165, 3) := by decide +kernel
theorem dX13_oneWord_66 : decode cX13_oneWord 66 = .ok (.ifCond .eq 8, 3) := by decide +kernel
theorem dX13_oneWord_69 : decode cX13_oneWord 69 = .ok (.bipush 16, 2) := by decide +kernel
theorem dX13_oneWord_71 : decode cX13_oneWord 71 = .ok (.goto 4, 3) := by decide +kernel
theorem dX13_oneWord_74 : decode cX13_oneWord 74 = .ok (.iconst (-1), 1) := by decide +kernel
theorem dX13_oneWord_75 : decode cX13_oneWord 75 = .ok (.ireturn, 1) := by decide +kernel
def pX13_oneWord (g : MT) (h : CT) (this : Nat) : Option Int32 := tg g this 12 (bd (pX13_isWord g h this (pX13_spelled 99 111 112 121 0 0)) fun x1 => (if x1 = 0 then bd (pX13_isWord g h this (pX13_spelled 115 105 110 103 108 101)) fun x4 => (if x4 = 0 then bd (pX13_isWord g h this (pX13_spelled 119 104 111 108 101 0)) fun x7 => (if x7 = 0 then some (-1) else some 16) else some 15) else some 14))
set_option maxRecDepth 10000 in
set_option maxHeartbeats 4000000 in
theorem pX13_oneWord_ok (G : Gx) (dk : Nat) (hK : 1 ≤ dk) {g : MT} {h : CT} {this : Nat} {r0 : Int32} (hf : pX13_oneWord g h this = some r0) : Ctr G dk yX13_oneWord cX13_oneWord 1 (some .int) [va_rf (some this)] g h (some (.int r0)) g h := by
  refine Ctr.ofZ (lv := [(0, va_rf (some this))]) (by decide +kernel) (by simp [cat_i, cat_l, cat_d, cat_rf]) rfl fun X Z => ?_
  unfold pX13_oneWord at hf
  replace hf := tg_i hf
  obtain ⟨t0, hf⟩ := hf
  refine J_aload_n Z.1 0 dX13_oneWord_0 rfl rfl ?_
  refine J_bipush Z.1 (v := 99) (by decide) dX13_oneWord_1 ?_
  refine J_bipush Z.1 (v := 111) (by decide) dX13_oneWord_3 ?_
  refine J_bipush Z.1 (v := 112) (by decide) dX13_oneWord_5 ?_
  refine J_bipush Z.1 (v := 121) (by decide) dX13_oneWord_7 ?_
  refine J_iconst Z.1 (v := 0) (by decide) dX13_oneWord_9 ?_
  refine J_iconst Z.1 (v := 0) (by decide) dX13_oneWord_10 ?_
  refine J_callS (as := [.int 99, .int 111, .int 112, .int 121, .int 0, .int 0]) (rest := [va_rf (some this)]) (sy := [.long (pX13_spelled 99 111 112 121 0 0), va_rf (some this)]) Z.1 dX13_oneWord_11 cw_X13_161 (pX13_spelled_ok G (dk - 1) (by omega) g h 99 111 112 121 0 0) (zG Z) rfl (by simp [cat_i, cat_l, cat_d, cat_rf]) (zF Z (by omega)) (zO Z (by omega) (by decide)) (zM _) Z.2.1 Z.2.1 rfl rfl ?_
  replace hf := bd_i hf
  obtain ⟨x1, q2, hf⟩ := hf
  refine J_callV (ci := 11) (as := [.long (pX13_spelled 99 111 112 121 0 0)]) (rest := []) (sy := [.int x1]) Z.1 dX13_oneWord_14 cw_X13_165 (pX13_isWord_ok G (dk - 1) (by omega) q2) rfl rfl t0 (zG Z) rfl (by decide) (zF Z (by omega)) (zO Z (by omega) (by decide)) (zM _) Z.2.1 Z.2.1 rfl rfl ?_
  refine J_if_eq Z.1 23 dX13_oneWord_17 (by decide) (fun c3 => ?_) (fun c3 => ?_)
  · rw [if_pos c3] at hf
    refine J_aload_n Z.1 0 dX13_oneWord_23 rfl rfl ?_
    refine J_bipush Z.1 (v := 115) (by decide) dX13_oneWord_24 ?_
    refine J_bipush Z.1 (v := 105) (by decide) dX13_oneWord_26 ?_
    refine J_bipush Z.1 (v := 110) (by decide) dX13_oneWord_28 ?_
    refine J_bipush Z.1 (v := 103) (by decide) dX13_oneWord_30 ?_
    refine J_bipush Z.1 (v := 108) (by decide) dX13_oneWord_32 ?_
    refine J_bipush Z.1 (v := 101) (by decide) dX13_oneWord_34 ?_
    refine J_callS (as := [.int 115, .int 105, .int 110, .int 103, .int 108, .int 101]) (rest := [va_rf (some this)]) (sy := [.long (pX13_spelled 115 105 110 103 108 101), va_rf (some this)]) Z.1 dX13_oneWord_36 cw_X13_161 (pX13_spelled_ok G (dk - 1) (by omega) g h 115 105 110 103 108 101) (zG Z) rfl (by simp [cat_i, cat_l, cat_d, cat_rf]) (zF Z (by omega)) (zO Z (by omega) (by decide)) (zM _) Z.2.1 Z.2.1 rfl rfl ?_
    replace hf := bd_i hf
    obtain ⟨x4, q5, hf⟩ := hf
    refine J_callV (ci := 11) (as := [.long (pX13_spelled 115 105 110 103 108 101)]) (rest := []) (sy := [.int x4]) Z.1 dX13_oneWord_39 cw_X13_165 (pX13_isWord_ok G (dk - 1) (by omega) q5) rfl rfl t0 (zG Z) rfl (by decide) (zF Z (by omega)) (zO Z (by omega) (by decide)) (zM _) Z.2.1 Z.2.1 rfl rfl ?_
    refine J_if_eq Z.1 48 dX13_oneWord_42 (by decide) (fun c6 => ?_) (fun c6 => ?_)
    · rw [if_pos c6] at hf
      refine J_aload_n Z.1 0 dX13_oneWord_48 rfl rfl ?_
      refine J_bipush Z.1 (v := 119) (by decide) dX13_oneWord_49 ?_
      refine J_bipush Z.1 (v := 104) (by decide) dX13_oneWord_51 ?_
      refine J_bipush Z.1 (v := 111) (by decide) dX13_oneWord_53 ?_
      refine J_bipush Z.1 (v := 108) (by decide) dX13_oneWord_55 ?_
      refine J_bipush Z.1 (v := 101) (by decide) dX13_oneWord_57 ?_
      refine J_iconst Z.1 (v := 0) (by decide) dX13_oneWord_59 ?_
      refine J_callS (as := [.int 119, .int 104, .int 111, .int 108, .int 101, .int 0]) (rest := [va_rf (some this)]) (sy := [.long (pX13_spelled 119 104 111 108 101 0), va_rf (some this)]) Z.1 dX13_oneWord_60 cw_X13_161 (pX13_spelled_ok G (dk - 1) (by omega) g h 119 104 111 108 101 0) (zG Z) rfl (by simp [cat_i, cat_l, cat_d, cat_rf]) (zF Z (by omega)) (zO Z (by omega) (by decide)) (zM _) Z.2.1 Z.2.1 rfl rfl ?_
      replace hf := bd_i hf
      obtain ⟨x7, q8, hf⟩ := hf
      refine J_callV (ci := 11) (as := [.long (pX13_spelled 119 104 111 108 101 0)]) (rest := []) (sy := [.int x7]) Z.1 dX13_oneWord_63 cw_X13_165 (pX13_isWord_ok G (dk - 1) (by omega) q8) rfl rfl t0 (zG Z) rfl (by decide) (zF Z (by omega)) (zO Z (by omega) (by decide)) (zM _) Z.2.1 Z.2.1 rfl rfl ?_
      refine J_if_eq Z.1 74 dX13_oneWord_66 (by decide) (fun c9 => ?_) (fun c9 => ?_)
      · rw [if_pos c9] at hf
        refine J_iconst Z.1 (v := (-1)) (by decide) dX13_oneWord_74 ?_
        cases hf
        exact J_iret Z.1 Z.2.2.2.2.2 dX13_oneWord_75
      · rw [if_neg c9] at hf
        refine J_bipush Z.1 (v := 16) (by decide) dX13_oneWord_69 ?_
        refine J_goto Z.1 75 dX13_oneWord_71 (by decide) ?_
        cases hf
        exact J_iret Z.1 Z.2.2.2.2.2 dX13_oneWord_75
    · rw [if_neg c6] at hf
      refine J_bipush Z.1 (v := 15) (by decide) dX13_oneWord_45 ?_
      cases hf
      exact J_iret Z.1 Z.2.2.2.2.2 dX13_oneWord_47
  · rw [if_neg c3] at hf
    refine J_bipush Z.1 (v := 14) (by decide) dX13_oneWord_20 ?_
    cases hf
    exact J_iret Z.1 Z.2.2.2.2.2 dX13_oneWord_22
theorem dX13_memoryWord_0 : decode cX13_memoryWord 0 = .ok (.aload_n 0, 1) := by decide +kernel
theorem dX13_memoryWord_1 : decode cX13_memoryWord 1 = .ok (.bipush 108, 2) := by decide +kernel
theorem dX13_memoryWord_3 : decode cX13_memoryWord 3 = .ok (.bipush 111, 2) := by decide +kernel
theorem dX13_memoryWord_5 : decode cX13_memoryWord 5 = .ok (.bipush 97, 2) := by decide +kernel
theorem dX13_memoryWord_7 : decode cX13_memoryWord 7 = .ok (.bipush 100, 2) := by decide +kernel
theorem dX13_memoryWord_9 : decode cX13_memoryWord 9 = .ok (.iconst 0, 1) := by decide +kernel
theorem dX13_memoryWord_10 : decode cX13_memoryWord 10 = .ok (.iconst 0, 1) := by decide +kernel
theorem dX13_memoryWord_11 : decode cX13_memoryWord 11 = .ok (.invokestatic 161, 3) := by decide +kernel
theorem dX13_memoryWord_14 : decode cX13_memoryWord 14 = .ok (.invokevirtual 165, 3) := by decide +kernel
theorem dX13_memoryWord_17 : decode cX13_memoryWord 17 = .ok (.ifCond .eq 5, 3) := by decide +kernel
theorem dX13_memoryWord_20 : decode cX13_memoryWord 20 = .ok (.iconst 3, 1) := by decide +kernel
theorem dX13_memoryWord_21 : decode cX13_memoryWord 21 = .ok (.ireturn, 1) := by decide +kernel
theorem dX13_memoryWord_22 : decode cX13_memoryWord 22 = .ok (.aload_n 0, 1) := by decide +kernel
theorem dX13_memoryWord_23 : decode cX13_memoryWord 23 = .ok (.bipush 115, 2) := by decide +kernel
theorem dX13_memoryWord_25 : decode cX13_memoryWord 25 = .ok (.bipush 116, 2) := by decide +kernel
theorem dX13_memoryWord_27 : decode cX13_memoryWord 27 = .ok (.bipush 111, 2) := by decide +kernel
theorem dX13_memoryWord_29 : decode cX13_memoryWord 29 = .ok (.bipush 114, 2) := by decide +kernel
theorem dX13_memoryWord_31 : decode cX13_memoryWord 31 = .ok (.bipush 101, 2) := by decide +kernel
theorem dX13_memoryWord_33 : decode cX13_memoryWord 33 = .ok (.iconst 0, 1) := by decide +kernel
theorem dX13_memoryWord_34 : decode cX13_memoryWord 34 = .ok (.invokestatic 161, 3) := by decide +kernel
theorem dX13_memoryWord_37 : decode cX13_memoryWord 37 = .ok (.invokevirtual 165, 3) := by decide +kernel
theorem dX13_memoryWord_40 : decode cX13_memoryWord 40 = .ok (.ifCond .eq 5, 3) := by decide +kernel
theorem dX13_memoryWord_43 : decode cX13_memoryWord 43 = .ok (.iconst 4, 1) := by decide +kernel
theorem dX13_memoryWord_44 : decode cX13_memoryWord 44 = .ok (.ireturn, 1) := by decide +kernel
theorem dX13_memoryWord_45 : decode cX13_memoryWord 45 = .ok (.aload_n 0, 1) := by decide +kernel
theorem dX13_memoryWord_46 : decode cX13_memoryWord 46 = .ok (.bipush 103, 2) := by decide +kernel
theorem dX13_memoryWord_48 : decode cX13_memoryWord 48 = .ok (.bipush 97, 2) := by decide +kernel
theorem dX13_memoryWord_50 : decode cX13_memoryWord 50 = .ok (.bipush 116, 2) := by decide +kernel
theorem dX13_memoryWord_52 : decode cX13_memoryWord 52 = .ok (.bipush 104, 2) := by decide +kernel
theorem dX13_memoryWord_54 : decode cX13_memoryWord 54 = .ok (.bipush 101, 2) := by decide +kernel
theorem dX13_memoryWord_56 : decode cX13_memoryWord 56 = .ok (.bipush 114, 2) := by decide +kernel
theorem dX13_memoryWord_58 : decode cX13_memoryWord 58 = .ok (.invokestatic 161, 3) := by decide +kernel
theorem dX13_memoryWord_61 : decode cX13_memoryWord 61 = .ok (.invokevirtual 165, 3) := by decide +kernel
theorem dX13_memoryWord_64 : decode cX13_memoryWord 64 = .ok (.ifCond .eq 5, 3) := by decide +kernel
theorem dX13_memoryWord_67 : decode cX13_memoryWord 67 = .ok (.iconst 5, 1) := by decide +kernel
theorem dX13_memoryWord_68 : decode cX13_memoryWord 68 = .ok (.ireturn, 1) := by decide +kernel
theorem dX13_memoryWord_69 : decode cX13_memoryWord 69 = .ok (.aload_n 0, 1) := by decide +kernel
theorem dX13_memoryWord_70 : decode cX13_memoryWord 70 = .ok (.bipush 115, 2) := by decide +kernel
theorem dX13_memoryWord_72 : decode cX13_memoryWord 72 = .ok (.bipush 99, 2) := by decide +kernel
theorem dX13_memoryWord_74 : decode cX13_memoryWord 74 = .ok (.bipush 97, 2) := by decide +kernel
theorem dX13_memoryWord_76 : decode cX13_memoryWord 76 = .ok (.bipush 116, 2) := by decide +kernel
theorem dX13_memoryWord_78 : decode cX13_memoryWord 78 = .ok (.bipush 116, 2) := by decide +kernel
theorem dX13_memoryWord_80 : decode cX13_memoryWord 80 = .ok (.bipush 101, 2) := by decide +kernel
theorem dX13_memoryWord_82 : decode cX13_memoryWord 82 = .ok (.invokestatic 161, 3) := by decide +kernel
theorem dX13_memoryWord_85 : decode cX13_memoryWord 85 = .ok (.ldc2_w 151, 3) := by decide +kernel
theorem dX13_memoryWord_88 : decode cX13_memoryWord 88 = .ok (.lmul, 1) := by decide +kernel
theorem dX13_memoryWord_89 : decode cX13_memoryWord 89 = .ok (.ldc2_w 169, 3) := by decide +kernel
theorem dX13_memoryWord_92 : decode cX13_memoryWord 92 = .ok (.ladd, 1) := by decide +kernel
theorem dX13_memoryWord_93 : decode cX13_memoryWord 93 = .ok (.invokevirtual 165, 3) := by decide +kernel
theorem dX13_memoryWord_96 : decode cX13_memoryWord 96 = .ok (.ifCond .eq 8, 3) := by decide +kernel
theorem dX13_memoryWord_99 : decode cX13_memoryWord 99 = .ok (.bipush 6, 2) := by decide +kernel
theorem dX13_memoryWord_101 : decode cX13_memoryWord 101 = .ok (.goto 4, 3) := by decide +kernel
theorem dX13_memoryWord_104 : decode cX13_memoryWord 104 = .ok (.iconst (-1), 1) := by decide +kernel
theorem dX13_memoryWord_105 : decode cX13_memoryWord 105 = .ok (.ireturn, 1) := by decide +kernel
def pX13_memoryWord (g : MT) (h : CT) (this : Nat) : Option Int32 := tg g this 12 (bd (pX13_isWord g h this (pX13_spelled 108 111 97 100 0 0)) fun x1 => (if x1 = 0 then bd (pX13_isWord g h this (pX13_spelled 115 116 111 114 101 0)) fun x4 => (if x4 = 0 then bd (pX13_isWord g h this (pX13_spelled 103 97 116 104 101 114)) fun x7 => (if x7 = 0 then bd (pX13_isWord g h this (((pX13_spelled 115 99 97 116 116 101) * 32) + 18)) fun x10 => (if x10 = 0 then some (-1) else some 6) else some 5) else some 4) else some 3))
set_option maxRecDepth 10000 in
set_option maxHeartbeats 4000000 in
theorem pX13_memoryWord_ok (G : Gx) (dk : Nat) (hK : 1 ≤ dk) {g : MT} {h : CT} {this : Nat} {r0 : Int32} (hf : pX13_memoryWord g h this = some r0) : Ctr G dk yX13_memoryWord cX13_memoryWord 1 (some .int) [va_rf (some this)] g h (some (.int r0)) g h := by
  refine Ctr.ofZ (lv := [(0, va_rf (some this))]) (by decide +kernel) (by simp [cat_i, cat_l, cat_d, cat_rf]) rfl fun X Z => ?_
  unfold pX13_memoryWord at hf
  replace hf := tg_i hf
  obtain ⟨t0, hf⟩ := hf
  refine J_aload_n Z.1 0 dX13_memoryWord_0 rfl rfl ?_
  refine J_bipush Z.1 (v := 108) (by decide) dX13_memoryWord_1 ?_
  refine J_bipush Z.1 (v := 111) (by decide) dX13_memoryWord_3 ?_
  refine J_bipush Z.1 (v := 97) (by decide) dX13_memoryWord_5 ?_
  refine J_bipush Z.1 (v := 100) (by decide) dX13_memoryWord_7 ?_
  refine J_iconst Z.1 (v := 0) (by decide) dX13_memoryWord_9 ?_
  refine J_iconst Z.1 (v := 0) (by decide) dX13_memoryWord_10 ?_
  refine J_callS (as := [.int 108, .int 111, .int 97, .int 100, .int 0, .int 0]) (rest := [va_rf (some this)]) (sy := [.long (pX13_spelled 108 111 97 100 0 0), va_rf (some this)]) Z.1 dX13_memoryWord_11 cw_X13_161 (pX13_spelled_ok G (dk - 1) (by omega) g h 108 111 97 100 0 0) (zG Z) rfl (by simp [cat_i, cat_l, cat_d, cat_rf]) (zF Z (by omega)) (zO Z (by omega) (by decide)) (zM _) Z.2.1 Z.2.1 rfl rfl ?_
  replace hf := bd_i hf
  obtain ⟨x1, q2, hf⟩ := hf
  refine J_callV (ci := 11) (as := [.long (pX13_spelled 108 111 97 100 0 0)]) (rest := []) (sy := [.int x1]) Z.1 dX13_memoryWord_14 cw_X13_165 (pX13_isWord_ok G (dk - 1) (by omega) q2) rfl rfl t0 (zG Z) rfl (by decide) (zF Z (by omega)) (zO Z (by omega) (by decide)) (zM _) Z.2.1 Z.2.1 rfl rfl ?_
  refine J_if_eq Z.1 22 dX13_memoryWord_17 (by decide) (fun c3 => ?_) (fun c3 => ?_)
  · rw [if_pos c3] at hf
    refine J_aload_n Z.1 0 dX13_memoryWord_22 rfl rfl ?_
    refine J_bipush Z.1 (v := 115) (by decide) dX13_memoryWord_23 ?_
    refine J_bipush Z.1 (v := 116) (by decide) dX13_memoryWord_25 ?_
    refine J_bipush Z.1 (v := 111) (by decide) dX13_memoryWord_27 ?_
    refine J_bipush Z.1 (v := 114) (by decide) dX13_memoryWord_29 ?_
    refine J_bipush Z.1 (v := 101) (by decide) dX13_memoryWord_31 ?_
    refine J_iconst Z.1 (v := 0) (by decide) dX13_memoryWord_33 ?_
    refine J_callS (as := [.int 115, .int 116, .int 111, .int 114, .int 101, .int 0]) (rest := [va_rf (some this)]) (sy := [.long (pX13_spelled 115 116 111 114 101 0), va_rf (some this)]) Z.1 dX13_memoryWord_34 cw_X13_161 (pX13_spelled_ok G (dk - 1) (by omega) g h 115 116 111 114 101 0) (zG Z) rfl (by simp [cat_i, cat_l, cat_d, cat_rf]) (zF Z (by omega)) (zO Z (by omega) (by decide)) (zM _) Z.2.1 Z.2.1 rfl rfl ?_
    replace hf := bd_i hf
    obtain ⟨x4, q5, hf⟩ := hf
    refine J_callV (ci := 11) (as := [.long (pX13_spelled 115 116 111 114 101 0)]) (rest := []) (sy := [.int x4]) Z.1 dX13_memoryWord_37 cw_X13_165 (pX13_isWord_ok G (dk - 1) (by omega) q5) rfl rfl t0 (zG Z) rfl (by decide) (zF Z (by omega)) (zO Z (by omega) (by decide)) (zM _) Z.2.1 Z.2.1 rfl rfl ?_
    refine J_if_eq Z.1 45 dX13_memoryWord_40 (by decide) (fun c6 => ?_) (fun c6 => ?_)
    · rw [if_pos c6] at hf
      refine J_aload_n Z.1 0 dX13_memoryWord_45 rfl rfl ?_
      refine J_bipush Z.1 (v := 103) (by decide) dX13_memoryWord_46 ?_
      refine J_bipush Z.1 (v := 97) (by decide) dX13_memoryWord_48 ?_
      refine J_bipush Z.1 (v := 116) (by decide) dX13_memoryWord_50 ?_
      refine J_bipush Z.1 (v := 104) (by decide) dX13_memoryWord_52 ?_
      refine J_bipush Z.1 (v := 101) (by decide) dX13_memoryWord_54 ?_
      refine J_bipush Z.1 (v := 114) (by decide) dX13_memoryWord_56 ?_
      refine J_callS (as := [.int 103, .int 97, .int 116, .int 104, .int 101, .int 114]) (rest := [va_rf (some this)]) (sy := [.long (pX13_spelled 103 97 116 104 101 114), va_rf (some this)]) Z.1 dX13_memoryWord_58 cw_X13_161 (pX13_spelled_ok G (dk - 1) (by omega) g h 103 97 116 104 101 114) (zG Z) rfl (by simp [cat_i, cat_l, cat_d, cat_rf]) (zF Z (by omega)) (zO Z (by omega) (by decide)) (zM _) Z.2.1 Z.2.1 rfl rfl ?_
      replace hf := bd_i hf
      obtain ⟨x7, q8, hf⟩ := hf
      refine J_callV (ci := 11) (as := [.long (pX13_spelled 103 97 116 104 101 114)]) (rest := []) (sy := [.int x7]) Z.1 dX13_memoryWord_61 cw_X13_165 (pX13_isWord_ok G (dk - 1) (by omega) q8) rfl rfl t0 (zG Z) rfl (by decide) (zF Z (by omega)) (zO Z (by omega) (by decide)) (zM _) Z.2.1 Z.2.1 rfl rfl ?_
      refine J_if_eq Z.1 69 dX13_memoryWord_64 (by decide) (fun c9 => ?_) (fun c9 => ?_)
      · rw [if_pos c9] at hf
        refine J_aload_n Z.1 0 dX13_memoryWord_69 rfl rfl ?_
        refine J_bipush Z.1 (v := 115) (by decide) dX13_memoryWord_70 ?_
        refine J_bipush Z.1 (v := 99) (by decide) dX13_memoryWord_72 ?_
        refine J_bipush Z.1 (v := 97) (by decide) dX13_memoryWord_74 ?_
        refine J_bipush Z.1 (v := 116) (by decide) dX13_memoryWord_76 ?_
        refine J_bipush Z.1 (v := 116) (by decide) dX13_memoryWord_78 ?_
        refine J_bipush Z.1 (v := 101) (by decide) dX13_memoryWord_80 ?_
        refine J_callS (as := [.int 115, .int 99, .int 97, .int 116, .int 116, .int 101]) (rest := [va_rf (some this)]) (sy := [.long (pX13_spelled 115 99 97 116 116 101), va_rf (some this)]) Z.1 dX13_memoryWord_82 cw_X13_161 (pX13_spelled_ok G (dk - 1) (by omega) g h 115 99 97 116 116 101) (zG Z) rfl (by simp [cat_i, cat_l, cat_d, cat_rf]) (zF Z (by omega)) (zO Z (by omega) (by decide)) (zM _) Z.2.1 Z.2.1 rfl rfl ?_
        refine J_ldc2 Z.1 q_1635 dX13_memoryWord_85 ?_
        refine J_lmul Z.1 dX13_memoryWord_88 ?_
        refine J_ldc2 Z.1 q_1668 dX13_memoryWord_89 ?_
        refine J_ladd Z.1 dX13_memoryWord_92 ?_
        replace hf := bd_i hf
        obtain ⟨x10, q11, hf⟩ := hf
        refine J_callV (ci := 11) (as := [.long (((pX13_spelled 115 99 97 116 116 101) * 32) + 18)]) (rest := []) (sy := [.int x10]) Z.1 dX13_memoryWord_93 cw_X13_165 (pX13_isWord_ok G (dk - 1) (by omega) q11) rfl rfl t0 (zG Z) rfl (by decide) (zF Z (by omega)) (zO Z (by omega) (by decide)) (zM _) Z.2.1 Z.2.1 rfl rfl ?_
        refine J_if_eq Z.1 104 dX13_memoryWord_96 (by decide) (fun c12 => ?_) (fun c12 => ?_)
        · rw [if_pos c12] at hf
          refine J_iconst Z.1 (v := (-1)) (by decide) dX13_memoryWord_104 ?_
          cases hf
          exact J_iret Z.1 Z.2.2.2.2.2 dX13_memoryWord_105
        · rw [if_neg c12] at hf
          refine J_bipush Z.1 (v := 6) (by decide) dX13_memoryWord_99 ?_
          refine J_goto Z.1 105 dX13_memoryWord_101 (by decide) ?_
          cases hf
          exact J_iret Z.1 Z.2.2.2.2.2 dX13_memoryWord_105
      · rw [if_neg c9] at hf
        refine J_iconst Z.1 (v := 5) (by decide) dX13_memoryWord_67 ?_
        cases hf
        exact J_iret Z.1 Z.2.2.2.2.2 dX13_memoryWord_68
    · rw [if_neg c6] at hf
      refine J_iconst Z.1 (v := 4) (by decide) dX13_memoryWord_43 ?_
      cases hf
      exact J_iret Z.1 Z.2.2.2.2.2 dX13_memoryWord_44
  · rw [if_neg c3] at hf
    refine J_iconst Z.1 (v := 3) (by decide) dX13_memoryWord_20 ?_
    cases hf
    exact J_iret Z.1 Z.2.2.2.2.2 dX13_memoryWord_21
theorem dX13_maskWord_0 : decode cX13_maskWord 0 = .ok (.aload_n 0, 1) := by decide +kernel
theorem dX13_maskWord_1 : decode cX13_maskWord 1 = .ok (.bipush 108, 2) := by decide +kernel
theorem dX13_maskWord_3 : decode cX13_maskWord 3 = .ok (.bipush 101, 2) := by decide +kernel
theorem dX13_maskWord_5 : decode cX13_maskWord 5 = .ok (.bipush 115, 2) := by decide +kernel
theorem dX13_maskWord_7 : decode cX13_maskWord 7 = .ok (.bipush 115, 2) := by decide +kernel
theorem dX13_maskWord_9 : decode cX13_maskWord 9 = .ok (.iconst 0, 1) := by decide +kernel
theorem dX13_maskWord_10 : decode cX13_maskWord 10 = .ok (.iconst 0, 1) := by decide +kernel
theorem dX13_maskWord_11 : decode cX13_maskWord 11 = .ok (.invokestatic 161, 3) := by decide +kernel
theorem dX13_maskWord_14 : decode cX13_maskWord 14 = .ok (.invokevirtual 165, 3) := by decide +kernel
theorem dX13_maskWord_17 : decode cX13_maskWord 17 = .ok (.ifCond .eq 6, 3) := by decide +kernel
theorem dX13_maskWord_20 : decode cX13_maskWord 20 = .ok (.bipush 17, 2) := by decide +kernel
theorem dX13_maskWord_22 : decode cX13_maskWord 22 = .ok (.ireturn, 1) := by decide +kernel
theorem dX13_maskWord_23 : decode cX13_maskWord 23 = .ok (.aload_n 0, 1) := by decide +kernel
theorem dX13_maskWord_24 : decode cX13_maskWord 24 = .ok (.bipush 115, 2) := by decide +kernel
theorem dX13_maskWord_26 : decode cX13_maskWord 26 = .ok (.bipush 97, 2) := by decide +kernel
theorem dX13_maskWord_28 : decode cX13_maskWord 28 = .ok (.bipush 109, 2) := by decide +kernel
theorem dX13_maskWord_30 : decode cX13_maskWord 30 = .ok (.bipush 101, 2) := by decide +kernel
theorem dX13_maskWord_32 : decode cX13_maskWord 32 = .ok (.iconst 0, 1) := by decide +kernel
theorem dX13_maskWord_33 : decode cX13_maskWord 33 = .ok (.iconst 0, 1) := by decide +kernel
theorem dX13_maskWord_34 : decode cX13_maskWord 34 = .ok (.invokestatic 161, 3) := by decide +kernel
theorem dX13_maskWord_37 : decode cX13_maskWord 37 = .ok (.invokevirtual 165, 3) := by decide +kernel
theorem dX13_maskWord_40 : decode cX13_maskWord 40 = .ok (.ifCond .eq 6, 3) := by decide +kernel
theorem dX13_maskWord_43 : decode cX13_maskWord 43 = .ok (.bipush 18, 2) := by decide +kernel
theorem dX13_maskWord_45 : decode cX13_maskWord 45 = .ok (.ireturn, 1) := by decide +kernel
theorem dX13_maskWord_46 : decode cX13_maskWord 46 = .ok (.aload_n 0, 1) := by decide +kernel
theorem dX13_maskWord_47 : decode cX13_maskWord 47 = .ok (.bipush 111, 2) := by decide +kernel
theorem dX13_maskWord_49 : decode cX13_maskWord 49 = .ok (.bipush 100, 2) := by decide +kernel
theorem dX13_maskWord_51 : decode cX13_maskWord 51 = .ok (.bipush 100, 2) := by decide +kernel
theorem dX13_maskWord_53 : decode cX13_maskWord 53 = .ok (.iconst 0, 1) := by decide +kernel
theorem dX13_maskWord_54 : decode cX13_maskWord 54 = .ok (.iconst 0, 1) := by decide +kernel
theorem dX13_maskWord_55 : decode cX13_maskWord 55 = .ok (.iconst 0, 1) := by decide +kernel
theorem dX13_maskWord_56 : decode cX13_maskWord 56 = .ok (.invokestatic 161, 3) := by decide +kernel
theorem dX13_maskWord_59 : decode cX13_maskWord 59 = .ok (.invokevirtual 165, 3) := by decide +kernel
theorem dX13_maskWord_62 : decode cX13_maskWord 62 = .ok (.ifCond .eq 6, 3) := by decide +kernel
theorem dX13_maskWord_65 : decode cX13_maskWord 65 = .ok (.bipush 19, 2) := by decide +kernel
theorem dX13_maskWord_67 : decode cX13_maskWord 67 = .ok (.ireturn, 1) := by decide +kernel
theorem dX13_maskWord_68 : decode cX13_maskWord 68 = .ok (.aload_n 0, 1) := by decide +kernel
theorem dX13_maskWord_69 : decode cX13_maskWord 69 = .ok (.bipush 102, 2) := by decide +kernel
theorem dX13_maskWord_71 : decode cX13_maskWord 71 = .ok (.bipush 108, 2) := by decide +kernel
theorem dX13_maskWord_73 : decode cX13_maskWord 73 = .ok (.bipush 105, 2) := by decide +kernel
theorem dX13_maskWord_75 : decode cX13_maskWord 75 = .ok (.bipush 112, 2) := by decide +kernel
theorem dX13_maskWord_77 : decode cX13_maskWord 77 = .ok (.iconst 0, 1) := by decide +kernel
theorem dX13_maskWord_78 : decode cX13_maskWord 78 = .ok (.iconst 0, 1) := by decide +kernel
theorem dX13_maskWord_79 : decode cX13_maskWord 79 = .ok (.invokestatic 161, 3) := by decide +kernel
theorem dX13_maskWord_82 : decode cX13_maskWord 82 = .ok (.invokevirtual 165, 3) := by decide +kernel
theorem dX13_maskWord_85 : decode cX13_maskWord 85 = .ok (.ifCond .eq 8, 3) := by decide +kernel
theorem dX13_maskWord_88 : decode cX13_maskWord 88 = .ok (.bipush 20, 2) := by decide +kernel
theorem dX13_maskWord_90 : decode cX13_maskWord 90 = .ok (.goto 29, 3) := by decide +kernel
theorem dX13_maskWord_93 : decode cX13_maskWord 93 = .ok (.aload_n 0, 1) := by decide +kernel
theorem dX13_maskWord_94 : decode cX13_maskWord 94 = .ok (.bipush 112, 2) := by decide +kernel
theorem dX13_maskWord_96 : decode cX13_maskWord 96 = .ok (.bipush 97, 2) := by decide +kernel
theorem dX13_maskWord_98 : decode cX13_maskWord 98 = .ok (.bipush 99, 2) := by decide +kernel
theorem dX13_maskWord_100 : decode cX13_maskWord 100 = .ok (.bipush 107, 2) := by decide +kernel
theorem dX13_maskWord_102 : decode cX13_maskWord 102 = .ok (.iconst 0, 1) := by decide +kernel
theorem dX13_maskWord_103 : decode cX13_maskWord 103 = .ok (.iconst 0, 1) := by decide +kernel
theorem dX13_maskWord_104 : decode cX13_maskWord 104 = .ok (.invokestatic 161, 3) := by decide +kernel
theorem dX13_maskWord_107 : decode cX13_maskWord 107 = .ok (.invokevirtual 165, 3) := by decide +kernel
theorem dX13_maskWord_110 : decode cX13_maskWord 110 = .ok (.ifCond .eq 8, 3) := by decide +kernel
theorem dX13_maskWord_113 : decode cX13_maskWord 113 = .ok (.bipush 21, 2) := by decide +kernel
theorem dX13_maskWord_115 : decode cX13_maskWord 115 = .ok (.goto 4, 3) := by decide +kernel
theorem dX13_maskWord_118 : decode cX13_maskWord 118 = .ok (.iconst (-1), 1) := by decide +kernel
theorem dX13_maskWord_119 : decode cX13_maskWord 119 = .ok (.ireturn, 1) := by decide +kernel
def pX13_maskWord (g : MT) (h : CT) (this : Nat) : Option Int32 := tg g this 12 (bd (pX13_isWord g h this (pX13_spelled 108 101 115 115 0 0)) fun x1 => (if x1 = 0 then bd (pX13_isWord g h this (pX13_spelled 115 97 109 101 0 0)) fun x4 => (if x4 = 0 then bd (pX13_isWord g h this (pX13_spelled 111 100 100 0 0 0)) fun x7 => (if x7 = 0 then bd (pX13_isWord g h this (pX13_spelled 102 108 105 112 0 0)) fun x10 => (if x10 = 0 then bd (pX13_isWord g h this (pX13_spelled 112 97 99 107 0 0)) fun x13 => (if x13 = 0 then some (-1) else some 21) else some 20) else some 19) else some 18) else some 17))
set_option maxRecDepth 10000 in
set_option maxHeartbeats 4000000 in
theorem pX13_maskWord_ok (G : Gx) (dk : Nat) (hK : 1 ≤ dk) {g : MT} {h : CT} {this : Nat} {r0 : Int32} (hf : pX13_maskWord g h this = some r0) : Ctr G dk yX13_maskWord cX13_maskWord 1 (some .int) [va_rf (some this)] g h (some (.int r0)) g h := by
  refine Ctr.ofZ (lv := [(0, va_rf (some this))]) (by decide +kernel) (by simp [cat_i, cat_l, cat_d, cat_rf]) rfl fun X Z => ?_
  unfold pX13_maskWord at hf
  replace hf := tg_i hf
  obtain ⟨t0, hf⟩ := hf
  refine J_aload_n Z.1 0 dX13_maskWord_0 rfl rfl ?_
  refine J_bipush Z.1 (v := 108) (by decide) dX13_maskWord_1 ?_
  refine J_bipush Z.1 (v := 101) (by decide) dX13_maskWord_3 ?_
  refine J_bipush Z.1 (v := 115) (by decide) dX13_maskWord_5 ?_
  refine J_bipush Z.1 (v := 115) (by decide) dX13_maskWord_7 ?_
  refine J_iconst Z.1 (v := 0) (by decide) dX13_maskWord_9 ?_
  refine J_iconst Z.1 (v := 0) (by decide) dX13_maskWord_10 ?_
  refine J_callS (as := [.int 108, .int 101, .int 115, .int 115, .int 0, .int 0]) (rest := [va_rf (some this)]) (sy := [.long (pX13_spelled 108 101 115 115 0 0), va_rf (some this)]) Z.1 dX13_maskWord_11 cw_X13_161 (pX13_spelled_ok G (dk - 1) (by omega) g h 108 101 115 115 0 0) (zG Z) rfl (by simp [cat_i, cat_l, cat_d, cat_rf]) (zF Z (by omega)) (zO Z (by omega) (by decide)) (zM _) Z.2.1 Z.2.1 rfl rfl ?_
  replace hf := bd_i hf
  obtain ⟨x1, q2, hf⟩ := hf
  refine J_callV (ci := 11) (as := [.long (pX13_spelled 108 101 115 115 0 0)]) (rest := []) (sy := [.int x1]) Z.1 dX13_maskWord_14 cw_X13_165 (pX13_isWord_ok G (dk - 1) (by omega) q2) rfl rfl t0 (zG Z) rfl (by decide) (zF Z (by omega)) (zO Z (by omega) (by decide)) (zM _) Z.2.1 Z.2.1 rfl rfl ?_
  refine J_if_eq Z.1 23 dX13_maskWord_17 (by decide) (fun c3 => ?_) (fun c3 => ?_)
  · rw [if_pos c3] at hf
    refine J_aload_n Z.1 0 dX13_maskWord_23 rfl rfl ?_
    refine J_bipush Z.1 (v := 115) (by decide) dX13_maskWord_24 ?_
    refine J_bipush Z.1 (v := 97) (by decide) dX13_maskWord_26 ?_
    refine J_bipush Z.1 (v := 109) (by decide) dX13_maskWord_28 ?_
    refine J_bipush Z.1 (v := 101) (by decide) dX13_maskWord_30 ?_
    refine J_iconst Z.1 (v := 0) (by decide) dX13_maskWord_32 ?_
    refine J_iconst Z.1 (v := 0) (by decide) dX13_maskWord_33 ?_
    refine J_callS (as := [.int 115, .int 97, .int 109, .int 101, .int 0, .int 0]) (rest := [va_rf (some this)]) (sy := [.long (pX13_spelled 115 97 109 101 0 0), va_rf (some this)]) Z.1 dX13_maskWord_34 cw_X13_161 (pX13_spelled_ok G (dk - 1) (by omega) g h 115 97 109 101 0 0) (zG Z) rfl (by simp [cat_i, cat_l, cat_d, cat_rf]) (zF Z (by omega)) (zO Z (by omega) (by decide)) (zM _) Z.2.1 Z.2.1 rfl rfl ?_
    replace hf := bd_i hf
    obtain ⟨x4, q5, hf⟩ := hf
    refine J_callV (ci := 11) (as := [.long (pX13_spelled 115 97 109 101 0 0)]) (rest := []) (sy := [.int x4]) Z.1 dX13_maskWord_37 cw_X13_165 (pX13_isWord_ok G (dk - 1) (by omega) q5) rfl rfl t0 (zG Z) rfl (by decide) (zF Z (by omega)) (zO Z (by omega) (by decide)) (zM _) Z.2.1 Z.2.1 rfl rfl ?_
    refine J_if_eq Z.1 46 dX13_maskWord_40 (by decide) (fun c6 => ?_) (fun c6 => ?_)
    · rw [if_pos c6] at hf
      refine J_aload_n Z.1 0 dX13_maskWord_46 rfl rfl ?_
      refine J_bipush Z.1 (v := 111) (by decide) dX13_maskWord_47 ?_
      refine J_bipush Z.1 (v := 100) (by decide) dX13_maskWord_49 ?_
      refine J_bipush Z.1 (v := 100) (by decide) dX13_maskWord_51 ?_
      refine J_iconst Z.1 (v := 0) (by decide) dX13_maskWord_53 ?_
      refine J_iconst Z.1 (v := 0) (by decide) dX13_maskWord_54 ?_
      refine J_iconst Z.1 (v := 0) (by decide) dX13_maskWord_55 ?_
      refine J_callS (as := [.int 111, .int 100, .int 100, .int 0, .int 0, .int 0]) (rest := [va_rf (some this)]) (sy := [.long (pX13_spelled 111 100 100 0 0 0), va_rf (some this)]) Z.1 dX13_maskWord_56 cw_X13_161 (pX13_spelled_ok G (dk - 1) (by omega) g h 111 100 100 0 0 0) (zG Z) rfl (by simp [cat_i, cat_l, cat_d, cat_rf]) (zF Z (by omega)) (zO Z (by omega) (by decide)) (zM _) Z.2.1 Z.2.1 rfl rfl ?_
      replace hf := bd_i hf
      obtain ⟨x7, q8, hf⟩ := hf
      refine J_callV (ci := 11) (as := [.long (pX13_spelled 111 100 100 0 0 0)]) (rest := []) (sy := [.int x7]) Z.1 dX13_maskWord_59 cw_X13_165 (pX13_isWord_ok G (dk - 1) (by omega) q8) rfl rfl t0 (zG Z) rfl (by decide) (zF Z (by omega)) (zO Z (by omega) (by decide)) (zM _) Z.2.1 Z.2.1 rfl rfl ?_
      refine J_if_eq Z.1 68 dX13_maskWord_62 (by decide) (fun c9 => ?_) (fun c9 => ?_)
      · rw [if_pos c9] at hf
        refine J_aload_n Z.1 0 dX13_maskWord_68 rfl rfl ?_
        refine J_bipush Z.1 (v := 102) (by decide) dX13_maskWord_69 ?_
        refine J_bipush Z.1 (v := 108) (by decide) dX13_maskWord_71 ?_
        refine J_bipush Z.1 (v := 105) (by decide) dX13_maskWord_73 ?_
        refine J_bipush Z.1 (v := 112) (by decide) dX13_maskWord_75 ?_
        refine J_iconst Z.1 (v := 0) (by decide) dX13_maskWord_77 ?_
        refine J_iconst Z.1 (v := 0) (by decide) dX13_maskWord_78 ?_
        refine J_callS (as := [.int 102, .int 108, .int 105, .int 112, .int 0, .int 0]) (rest := [va_rf (some this)]) (sy := [.long (pX13_spelled 102 108 105 112 0 0), va_rf (some this)]) Z.1 dX13_maskWord_79 cw_X13_161 (pX13_spelled_ok G (dk - 1) (by omega) g h 102 108 105 112 0 0) (zG Z) rfl (by simp [cat_i, cat_l, cat_d, cat_rf]) (zF Z (by omega)) (zO Z (by omega) (by decide)) (zM _) Z.2.1 Z.2.1 rfl rfl ?_
        replace hf := bd_i hf
        obtain ⟨x10, q11, hf⟩ := hf
        refine J_callV (ci := 11) (as := [.long (pX13_spelled 102 108 105 112 0 0)]) (rest := []) (sy := [.int x10]) Z.1 dX13_maskWord_82 cw_X13_165 (pX13_isWord_ok G (dk - 1) (by omega) q11) rfl rfl t0 (zG Z) rfl (by decide) (zF Z (by omega)) (zO Z (by omega) (by decide)) (zM _) Z.2.1 Z.2.1 rfl rfl ?_
        refine J_if_eq Z.1 93 dX13_maskWord_85 (by decide) (fun c12 => ?_) (fun c12 => ?_)
        · rw [if_pos c12] at hf
          refine J_aload_n Z.1 0 dX13_maskWord_93 rfl rfl ?_
          refine J_bipush Z.1 (v := 112) (by decide) dX13_maskWord_94 ?_
          refine J_bipush Z.1 (v := 97) (by decide) dX13_maskWord_96 ?_
          refine J_bipush Z.1 (v := 99) (by decide) dX13_maskWord_98 ?_
          refine J_bipush Z.1 (v := 107) (by decide) dX13_maskWord_100 ?_
          refine J_iconst Z.1 (v := 0) (by decide) dX13_maskWord_102 ?_
          refine J_iconst Z.1 (v := 0) (by decide) dX13_maskWord_103 ?_
          refine J_callS (as := [.int 112, .int 97, .int 99, .int 107, .int 0, .int 0]) (rest := [va_rf (some this)]) (sy := [.long (pX13_spelled 112 97 99 107 0 0), va_rf (some this)]) Z.1 dX13_maskWord_104 cw_X13_161 (pX13_spelled_ok G (dk - 1) (by omega) g h 112 97 99 107 0 0) (zG Z) rfl (by simp [cat_i, cat_l, cat_d, cat_rf]) (zF Z (by omega)) (zO Z (by omega) (by decide)) (zM _) Z.2.1 Z.2.1 rfl rfl ?_
          replace hf := bd_i hf
          obtain ⟨x13, q14, hf⟩ := hf
          refine J_callV (ci := 11) (as := [.long (pX13_spelled 112 97 99 107 0 0)]) (rest := []) (sy := [.int x13]) Z.1 dX13_maskWord_107 cw_X13_165 (pX13_isWord_ok G (dk - 1) (by omega) q14) rfl rfl t0 (zG Z) rfl (by decide) (zF Z (by omega)) (zO Z (by omega) (by decide)) (zM _) Z.2.1 Z.2.1 rfl rfl ?_
          refine J_if_eq Z.1 118 dX13_maskWord_110 (by decide) (fun c15 => ?_) (fun c15 => ?_)
          · rw [if_pos c15] at hf
            refine J_iconst Z.1 (v := (-1)) (by decide) dX13_maskWord_118 ?_
            cases hf
            exact J_iret Z.1 Z.2.2.2.2.2 dX13_maskWord_119
          · rw [if_neg c15] at hf
            refine J_bipush Z.1 (v := 21) (by decide) dX13_maskWord_113 ?_
            refine J_goto Z.1 119 dX13_maskWord_115 (by decide) ?_
            cases hf
            exact J_iret Z.1 Z.2.2.2.2.2 dX13_maskWord_119
        · rw [if_neg c12] at hf
          refine J_bipush Z.1 (v := 20) (by decide) dX13_maskWord_88 ?_
          refine J_goto Z.1 119 dX13_maskWord_90 (by decide) ?_
          cases hf
          exact J_iret Z.1 Z.2.2.2.2.2 dX13_maskWord_119
      · rw [if_neg c9] at hf
        refine J_bipush Z.1 (v := 19) (by decide) dX13_maskWord_65 ?_
        cases hf
        exact J_iret Z.1 Z.2.2.2.2.2 dX13_maskWord_67
    · rw [if_neg c6] at hf
      refine J_bipush Z.1 (v := 18) (by decide) dX13_maskWord_43 ?_
      cases hf
      exact J_iret Z.1 Z.2.2.2.2.2 dX13_maskWord_45
  · rw [if_neg c3] at hf
    refine J_bipush Z.1 (v := 17) (by decide) dX13_maskWord_20 ?_
    cases hf
    exact J_iret Z.1 Z.2.2.2.2.2 dX13_maskWord_22
theorem dX13_scalarWord_0 : decode cX13_scalarWord 0 = .ok (.aload_n 0, 1) := by decide +kernel
theorem dX13_scalarWord_1 : decode cX13_scalarWord 1 = .ok (.bipush 102, 2) := by decide +kernel
theorem dX13_scalarWord_3 : decode cX13_scalarWord 3 = .ok (.bipush 105, 2) := by decide +kernel
theorem dX13_scalarWord_5 : decode cX13_scalarWord 5 = .ok (.bipush 108, 2) := by decide +kernel
theorem dX13_scalarWord_7 : decode cX13_scalarWord 7 = .ok (.bipush 108, 2) := by decide +kernel
theorem dX13_scalarWord_9 : decode cX13_scalarWord 9 = .ok (.iconst 0, 1) := by decide +kernel
theorem dX13_scalarWord_10 : decode cX13_scalarWord 10 = .ok (.iconst 0, 1) := by decide +kernel
theorem dX13_scalarWord_11 : decode cX13_scalarWord 11 = .ok (.invokestatic 161, 3) := by decide +kernel
theorem dX13_scalarWord_14 : decode cX13_scalarWord 14 = .ok (.invokevirtual 165, 3) := by decide +kernel
theorem dX13_scalarWord_17 : decode cX13_scalarWord 17 = .ok (.ifCond .eq 5, 3) := by decide +kernel
theorem dX13_scalarWord_20 : decode cX13_scalarWord 20 = .ok (.iconst 2, 1) := by decide +kernel
theorem dX13_scalarWord_21 : decode cX13_scalarWord 21 = .ok (.ireturn, 1) := by decide +kernel
theorem dX13_scalarWord_22 : decode cX13_scalarWord 22 = .ok (.aload_n 0, 1) := by decide +kernel
theorem dX13_scalarWord_23 : decode cX13_scalarWord 23 = .ok (.bipush 99, 2) := by decide +kernel
theorem dX13_scalarWord_25 : decode cX13_scalarWord 25 = .ok (.bipush 111, 2) := by decide +kernel
theorem dX13_scalarWord_27 : decode cX13_scalarWord 27 = .ok (.bipush 117, 2) := by decide +kernel
theorem dX13_scalarWord_29 : decode cX13_scalarWord 29 = .ok (.bipush 110, 2) := by decide +kernel
theorem dX13_scalarWord_31 : decode cX13_scalarWord 31 = .ok (.bipush 116, 2) := by decide +kernel
theorem dX13_scalarWord_33 : decode cX13_scalarWord 33 = .ok (.iconst 0, 1) := by decide +kernel
theorem dX13_scalarWord_34 : decode cX13_scalarWord 34 = .ok (.invokestatic 161, 3) := by decide +kernel
theorem dX13_scalarWord_37 : decode cX13_scalarWord 37 = .ok (.invokevirtual 165, 3) := by decide +kernel
theorem dX13_scalarWord_40 : decode cX13_scalarWord 40 = .ok (.ifCond .eq 6, 3) := by decide +kernel
theorem dX13_scalarWord_43 : decode cX13_scalarWord 43 = .ok (.bipush 22, 2) := by decide +kernel
theorem dX13_scalarWord_45 : decode cX13_scalarWord 45 = .ok (.ireturn, 1) := by decide +kernel
theorem dX13_scalarWord_46 : decode cX13_scalarWord 46 = .ok (.aload_n 0, 1) := by decide +kernel
theorem dX13_scalarWord_47 : decode cX13_scalarWord 47 = .ok (.bipush 102, 2) := by decide +kernel
theorem dX13_scalarWord_49 : decode cX13_scalarWord 49 = .ok (.bipush 111, 2) := by decide +kernel
theorem dX13_scalarWord_51 : decode cX13_scalarWord 51 = .ok (.bipush 108, 2) := by decide +kernel
theorem dX13_scalarWord_53 : decode cX13_scalarWord 53 = .ok (.bipush 100, 2) := by decide +kernel
theorem dX13_scalarWord_55 : decode cX13_scalarWord 55 = .ok (.iconst 0, 1) := by decide +kernel
theorem dX13_scalarWord_56 : decode cX13_scalarWord 56 = .ok (.iconst 0, 1) := by decide +kernel
theorem dX13_scalarWord_57 : decode cX13_scalarWord 57 = .ok (.invokestatic 161, 3) := by decide +kernel
theorem dX13_scalarWord_60 : decode cX13_scalarWord 60 = .ok (.invokevirtual 165, 3) := by decide +kernel
theorem dX13_scalarWord_63 : decode cX13_scalarWord 63 = .ok (.ifCond .eq 6, 3) := by decide +kernel
theorem dX13_scalarWord_66 : decode cX13_scalarWord 66 = .ok (.bipush 23, 2) := by decide +kernel
theorem dX13_scalarWord_68 : decode cX13_scalarWord 68 = .ok (.ireturn, 1) := by decide +kernel
theorem dX13_scalarWord_69 : decode cX13_scalarWord 69 = .ok (.aload_n 0, 1) := by decide +kernel
theorem dX13_scalarWord_70 : decode cX13_scalarWord 70 = .ok (.bipush 116, 2) := by decide +kernel
theorem dX13_scalarWord_72 : decode cX13_scalarWord 72 = .ok (.bipush 111, 2) := by decide +kernel
theorem dX13_scalarWord_74 : decode cX13_scalarWord 74 = .ok (.bipush 112, 2) := by decide +kernel
theorem dX13_scalarWord_76 : decode cX13_scalarWord 76 = .ok (.iconst 0, 1) := by decide +kernel
theorem dX13_scalarWord_77 : decode cX13_scalarWord 77 = .ok (.iconst 0, 1) := by decide +kernel
theorem dX13_scalarWord_78 : decode cX13_scalarWord 78 = .ok (.iconst 0, 1) := by decide +kernel
theorem dX13_scalarWord_79 : decode cX13_scalarWord 79 = .ok (.invokestatic 161, 3) := by decide +kernel
theorem dX13_scalarWord_82 : decode cX13_scalarWord 82 = .ok (.invokevirtual 165, 3) := by decide +kernel
theorem dX13_scalarWord_85 : decode cX13_scalarWord 85 = .ok (.ifCond .eq 8, 3) := by decide +kernel
theorem dX13_scalarWord_88 : decode cX13_scalarWord 88 = .ok (.bipush 24, 2) := by decide +kernel
theorem dX13_scalarWord_90 : decode cX13_scalarWord 90 = .ok (.goto 4, 3) := by decide +kernel
theorem dX13_scalarWord_93 : decode cX13_scalarWord 93 = .ok (.iconst (-1), 1) := by decide +kernel
theorem dX13_scalarWord_94 : decode cX13_scalarWord 94 = .ok (.ireturn, 1) := by decide +kernel
def pX13_scalarWord (g : MT) (h : CT) (this : Nat) : Option Int32 := tg g this 12 (bd (pX13_isWord g h this (pX13_spelled 102 105 108 108 0 0)) fun x1 => (if x1 = 0 then bd (pX13_isWord g h this (pX13_spelled 99 111 117 110 116 0)) fun x4 => (if x4 = 0 then bd (pX13_isWord g h this (pX13_spelled 102 111 108 100 0 0)) fun x7 => (if x7 = 0 then bd (pX13_isWord g h this (pX13_spelled 116 111 112 0 0 0)) fun x10 => (if x10 = 0 then some (-1) else some 24) else some 23) else some 22) else some 2))
set_option maxRecDepth 10000 in
set_option maxHeartbeats 4000000 in
theorem pX13_scalarWord_ok (G : Gx) (dk : Nat) (hK : 1 ≤ dk) {g : MT} {h : CT} {this : Nat} {r0 : Int32} (hf : pX13_scalarWord g h this = some r0) : Ctr G dk yX13_scalarWord cX13_scalarWord 1 (some .int) [va_rf (some this)] g h (some (.int r0)) g h := by
  refine Ctr.ofZ (lv := [(0, va_rf (some this))]) (by decide +kernel) (by simp [cat_i, cat_l, cat_d, cat_rf]) rfl fun X Z => ?_
  unfold pX13_scalarWord at hf
  replace hf := tg_i hf
  obtain ⟨t0, hf⟩ := hf
  refine J_aload_n Z.1 0 dX13_scalarWord_0 rfl rfl ?_
  refine J_bipush Z.1 (v := 102) (by decide) dX13_scalarWord_1 ?_
  refine J_bipush Z.1 (v := 105) (by decide) dX13_scalarWord_3 ?_
  refine J_bipush Z.1 (v := 108) (by decide) dX13_scalarWord_5 ?_
  refine J_bipush Z.1 (v := 108) (by decide) dX13_scalarWord_7 ?_
  refine J_iconst Z.1 (v := 0) (by decide) dX13_scalarWord_9 ?_
  refine J_iconst Z.1 (v := 0) (by decide) dX13_scalarWord_10 ?_
  refine J_callS (as := [.int 102, .int 105, .int 108, .int 108, .int 0, .int 0]) (rest := [va_rf (some this)]) (sy := [.long (pX13_spelled 102 105 108 108 0 0), va_rf (some this)]) Z.1 dX13_scalarWord_11 cw_X13_161 (pX13_spelled_ok G (dk - 1) (by omega) g h 102 105 108 108 0 0) (zG Z) rfl (by simp [cat_i, cat_l, cat_d, cat_rf]) (zF Z (by omega)) (zO Z (by omega) (by decide)) (zM _) Z.2.1 Z.2.1 rfl rfl ?_
  replace hf := bd_i hf
  obtain ⟨x1, q2, hf⟩ := hf
  refine J_callV (ci := 11) (as := [.long (pX13_spelled 102 105 108 108 0 0)]) (rest := []) (sy := [.int x1]) Z.1 dX13_scalarWord_14 cw_X13_165 (pX13_isWord_ok G (dk - 1) (by omega) q2) rfl rfl t0 (zG Z) rfl (by decide) (zF Z (by omega)) (zO Z (by omega) (by decide)) (zM _) Z.2.1 Z.2.1 rfl rfl ?_
  refine J_if_eq Z.1 22 dX13_scalarWord_17 (by decide) (fun c3 => ?_) (fun c3 => ?_)
  · rw [if_pos c3] at hf
    refine J_aload_n Z.1 0 dX13_scalarWord_22 rfl rfl ?_
    refine J_bipush Z.1 (v := 99) (by decide) dX13_scalarWord_23 ?_
    refine J_bipush Z.1 (v := 111) (by decide) dX13_scalarWord_25 ?_
    refine J_bipush Z.1 (v := 117) (by decide) dX13_scalarWord_27 ?_
    refine J_bipush Z.1 (v := 110) (by decide) dX13_scalarWord_29 ?_
    refine J_bipush Z.1 (v := 116) (by decide) dX13_scalarWord_31 ?_
    refine J_iconst Z.1 (v := 0) (by decide) dX13_scalarWord_33 ?_
    refine J_callS (as := [.int 99, .int 111, .int 117, .int 110, .int 116, .int 0]) (rest := [va_rf (some this)]) (sy := [.long (pX13_spelled 99 111 117 110 116 0), va_rf (some this)]) Z.1 dX13_scalarWord_34 cw_X13_161 (pX13_spelled_ok G (dk - 1) (by omega) g h 99 111 117 110 116 0) (zG Z) rfl (by simp [cat_i, cat_l, cat_d, cat_rf]) (zF Z (by omega)) (zO Z (by omega) (by decide)) (zM _) Z.2.1 Z.2.1 rfl rfl ?_
    replace hf := bd_i hf
    obtain ⟨x4, q5, hf⟩ := hf
    refine J_callV (ci := 11) (as := [.long (pX13_spelled 99 111 117 110 116 0)]) (rest := []) (sy := [.int x4]) Z.1 dX13_scalarWord_37 cw_X13_165 (pX13_isWord_ok G (dk - 1) (by omega) q5) rfl rfl t0 (zG Z) rfl (by decide) (zF Z (by omega)) (zO Z (by omega) (by decide)) (zM _) Z.2.1 Z.2.1 rfl rfl ?_
    refine J_if_eq Z.1 46 dX13_scalarWord_40 (by decide) (fun c6 => ?_) (fun c6 => ?_)
    · rw [if_pos c6] at hf
      refine J_aload_n Z.1 0 dX13_scalarWord_46 rfl rfl ?_
      refine J_bipush Z.1 (v := 102) (by decide) dX13_scalarWord_47 ?_
      refine J_bipush Z.1 (v := 111) (by decide) dX13_scalarWord_49 ?_
      refine J_bipush Z.1 (v := 108) (by decide) dX13_scalarWord_51 ?_
      refine J_bipush Z.1 (v := 100) (by decide) dX13_scalarWord_53 ?_
      refine J_iconst Z.1 (v := 0) (by decide) dX13_scalarWord_55 ?_
      refine J_iconst Z.1 (v := 0) (by decide) dX13_scalarWord_56 ?_
      refine J_callS (as := [.int 102, .int 111, .int 108, .int 100, .int 0, .int 0]) (rest := [va_rf (some this)]) (sy := [.long (pX13_spelled 102 111 108 100 0 0), va_rf (some this)]) Z.1 dX13_scalarWord_57 cw_X13_161 (pX13_spelled_ok G (dk - 1) (by omega) g h 102 111 108 100 0 0) (zG Z) rfl (by simp [cat_i, cat_l, cat_d, cat_rf]) (zF Z (by omega)) (zO Z (by omega) (by decide)) (zM _) Z.2.1 Z.2.1 rfl rfl ?_
      replace hf := bd_i hf
      obtain ⟨x7, q8, hf⟩ := hf
      refine J_callV (ci := 11) (as := [.long (pX13_spelled 102 111 108 100 0 0)]) (rest := []) (sy := [.int x7]) Z.1 dX13_scalarWord_60 cw_X13_165 (pX13_isWord_ok G (dk - 1) (by omega) q8) rfl rfl t0 (zG Z) rfl (by decide) (zF Z (by omega)) (zO Z (by omega) (by decide)) (zM _) Z.2.1 Z.2.1 rfl rfl ?_
      refine J_if_eq Z.1 69 dX13_scalarWord_63 (by decide) (fun c9 => ?_) (fun c9 => ?_)
      · rw [if_pos c9] at hf
        refine J_aload_n Z.1 0 dX13_scalarWord_69 rfl rfl ?_
        refine J_bipush Z.1 (v := 116) (by decide) dX13_scalarWord_70 ?_
        refine J_bipush Z.1 (v := 111) (by decide) dX13_scalarWord_72 ?_
        refine J_bipush Z.1 (v := 112) (by decide) dX13_scalarWord_74 ?_
        refine J_iconst Z.1 (v := 0) (by decide) dX13_scalarWord_76 ?_
        refine J_iconst Z.1 (v := 0) (by decide) dX13_scalarWord_77 ?_
        refine J_iconst Z.1 (v := 0) (by decide) dX13_scalarWord_78 ?_
        refine J_callS (as := [.int 116, .int 111, .int 112, .int 0, .int 0, .int 0]) (rest := [va_rf (some this)]) (sy := [.long (pX13_spelled 116 111 112 0 0 0), va_rf (some this)]) Z.1 dX13_scalarWord_79 cw_X13_161 (pX13_spelled_ok G (dk - 1) (by omega) g h 116 111 112 0 0 0) (zG Z) rfl (by simp [cat_i, cat_l, cat_d, cat_rf]) (zF Z (by omega)) (zO Z (by omega) (by decide)) (zM _) Z.2.1 Z.2.1 rfl rfl ?_
        replace hf := bd_i hf
        obtain ⟨x10, q11, hf⟩ := hf
        refine J_callV (ci := 11) (as := [.long (pX13_spelled 116 111 112 0 0 0)]) (rest := []) (sy := [.int x10]) Z.1 dX13_scalarWord_82 cw_X13_165 (pX13_isWord_ok G (dk - 1) (by omega) q11) rfl rfl t0 (zG Z) rfl (by decide) (zF Z (by omega)) (zO Z (by omega) (by decide)) (zM _) Z.2.1 Z.2.1 rfl rfl ?_
        refine J_if_eq Z.1 93 dX13_scalarWord_85 (by decide) (fun c12 => ?_) (fun c12 => ?_)
        · rw [if_pos c12] at hf
          refine J_iconst Z.1 (v := (-1)) (by decide) dX13_scalarWord_93 ?_
          cases hf
          exact J_iret Z.1 Z.2.2.2.2.2 dX13_scalarWord_94
        · rw [if_neg c12] at hf
          refine J_bipush Z.1 (v := 24) (by decide) dX13_scalarWord_88 ?_
          refine J_goto Z.1 94 dX13_scalarWord_90 (by decide) ?_
          cases hf
          exact J_iret Z.1 Z.2.2.2.2.2 dX13_scalarWord_94
      · rw [if_neg c9] at hf
        refine J_bipush Z.1 (v := 23) (by decide) dX13_scalarWord_66 ?_
        cases hf
        exact J_iret Z.1 Z.2.2.2.2.2 dX13_scalarWord_68
    · rw [if_neg c6] at hf
      refine J_bipush Z.1 (v := 22) (by decide) dX13_scalarWord_43 ?_
      cases hf
      exact J_iret Z.1 Z.2.2.2.2.2 dX13_scalarWord_45
  · rw [if_neg c3] at hf
    refine J_iconst Z.1 (v := 2) (by decide) dX13_scalarWord_20 ?_
    cases hf
    exact J_iret Z.1 Z.2.2.2.2.2 dX13_scalarWord_21
theorem dX13_plainWord_0 : decode cX13_plainWord 0 = .ok (.aload_n 0, 1) := by decide +kernel
theorem dX13_plainWord_1 : decode cX13_plainWord 1 = .ok (.bipush 115, 2) := by decide +kernel
theorem dX13_plainWord_3 : decode cX13_plainWord 3 = .ok (.bipush 101, 2) := by decide +kernel
theorem dX13_plainWord_5 : decode cX13_plainWord 5 = .ok (.bipush 116, 2) := by decide +kernel
theorem dX13_plainWord_7 : decode cX13_plainWord 7 = .ok (.bipush 118, 2) := by decide +kernel
theorem dX13_plainWord_9 : decode cX13_plainWord 9 = .ok (.bipush 108, 2) := by decide +kernel
theorem dX13_plainWord_11 : decode cX13_plainWord 11 = .ok (.iconst 0, 1) := by decide +kernel
theorem dX13_plainWord_12 : decode cX13_plainWord 12 = .ok (.invokestatic 161, 3) := by decide +kernel
theorem dX13_plainWord_15 : decode cX13_plainWord 15 = .ok (.invokevirtual 165, 3) := by decide +kernel
theorem dX13_plainWord_18 : decode cX13_plainWord 18 = .ok (.ifCond .eq 5, 3) := by decide +kernel
theorem dX13_plainWord_21 : decode cX13_plainWord 21 = .ok (.iconst 0, 1) := by decide +kernel
theorem dX13_plainWord_22 : decode cX13_plainWord 22 = .ok (.ireturn, 1) := by decide +kernel
theorem dX13_plainWord_23 : decode cX13_plainWord 23 = .ok (.aload_n 0, 1) := by decide +kernel
theorem dX13_plainWord_24 : decode cX13_plainWord 24 = .ok (.bipush 105, 2) := by decide +kernel
theorem dX13_plainWord_26 : decode cX13_plainWord 26 = .ok (.bipush 111, 2) := by decide +kernel
theorem dX13_plainWord_28 : decode cX13_plainWord 28 = .ok (.bipush 116, 2) := by decide +kernel
theorem dX13_plainWord_30 : decode cX13_plainWord 30 = .ok (.bipush 97, 2) := by decide +kernel
theorem dX13_plainWord_32 : decode cX13_plainWord 32 = .ok (.iconst 0, 1) := by decide +kernel
theorem dX13_plainWord_33 : decode cX13_plainWord 33 = .ok (.iconst 0, 1) := by decide +kernel
theorem dX13_plainWord_34 : decode cX13_plainWord 34 = .ok (.invokestatic 161, 3) := by decide +kernel
theorem dX13_plainWord_37 : decode cX13_plainWord 37 = .ok (.invokevirtual 165, 3) := by decide +kernel
theorem dX13_plainWord_40 : decode cX13_plainWord 40 = .ok (.ifCond .eq 5, 3) := by decide +kernel
theorem dX13_plainWord_43 : decode cX13_plainWord 43 = .ok (.iconst 1, 1) := by decide +kernel
theorem dX13_plainWord_44 : decode cX13_plainWord 44 = .ok (.ireturn, 1) := by decide +kernel
theorem dX13_plainWord_45 : decode cX13_plainWord 45 = .ok (.aload_n 0, 1) := by decide +kernel
theorem dX13_plainWord_46 : decode cX13_plainWord 46 = .ok (.bipush 115, 2) := by decide +kernel
theorem dX13_plainWord_48 : decode cX13_plainWord 48 = .ok (.bipush 116, 2) := by decide +kernel
theorem dX13_plainWord_50 : decode cX13_plainWord 50 = .ok (.bipush 114, 2) := by decide +kernel
theorem dX13_plainWord_52 : decode cX13_plainWord 52 = .ok (.bipush 105, 2) := by decide +kernel
theorem dX13_plainWord_54 : decode cX13_plainWord 54 = .ok (.bipush 112, 2) := by decide +kernel
theorem dX13_plainWord_56 : decode cX13_plainWord 56 = .ok (.iconst 0, 1) := by decide +kernel
theorem dX13_plainWord_57 : decode cX13_plainWord 57 = .ok (.invokestatic 161, 3) := by decide +kernel
theorem dX13_plainWord_60 : decode cX13_plainWord 60 = .ok (.invokevirtual 165, 3) := by decide +kernel
theorem dX13_plainWord_63 : decode cX13_plainWord 63 = .ok (.ifCond .eq 6, 3) := by decide +kernel
theorem dX13_plainWord_66 : decode cX13_plainWord 66 = .ok (.bipush 25, 2) := by decide +kernel
theorem dX13_plainWord_68 : decode cX13_plainWord 68 = .ok (.ireturn, 1) := by decide +kernel
theorem dX13_plainWord_69 : decode cX13_plainWord 69 = .ok (.aload_n 0, 1) := by decide +kernel
theorem dX13_plainWord_70 : decode cX13_plainWord 70 = .ok (.bipush 115, 2) := by decide +kernel
theorem dX13_plainWord_72 : decode cX13_plainWord 72 = .ok (.bipush 116, 2) := by decide +kernel
theorem dX13_plainWord_74 : decode cX13_plainWord 74 = .ok (.bipush 111, 2) := by decide +kernel
theorem dX13_plainWord_76 : decode cX13_plainWord 76 = .ok (.bipush 112, 2) := by decide +kernel
theorem dX13_plainWord_78 : decode cX13_plainWord 78 = .ok (.iconst 0, 1) := by decide +kernel
theorem dX13_plainWord_79 : decode cX13_plainWord 79 = .ok (.iconst 0, 1) := by decide +kernel
theorem dX13_plainWord_80 : decode cX13_plainWord 80 = .ok (.invokestatic 161, 3) := by decide +kernel
theorem dX13_plainWord_83 : decode cX13_plainWord 83 = .ok (.invokevirtual 165, 3) := by decide +kernel
theorem dX13_plainWord_86 : decode cX13_plainWord 86 = .ok (.ifCond .eq 8, 3) := by decide +kernel
theorem dX13_plainWord_89 : decode cX13_plainWord 89 = .ok (.bipush 26, 2) := by decide +kernel
theorem dX13_plainWord_91 : decode cX13_plainWord 91 = .ok (.goto 4, 3) := by decide +kernel
theorem dX13_plainWord_94 : decode cX13_plainWord 94 = .ok (.iconst (-1), 1) := by decide +kernel
theorem dX13_plainWord_95 : decode cX13_plainWord 95 = .ok (.ireturn, 1) := by decide +kernel
def pX13_plainWord (g : MT) (h : CT) (this : Nat) : Option Int32 := tg g this 12 (bd (pX13_isWord g h this (pX13_spelled 115 101 116 118 108 0)) fun x1 => (if x1 = 0 then bd (pX13_isWord g h this (pX13_spelled 105 111 116 97 0 0)) fun x4 => (if x4 = 0 then bd (pX13_isWord g h this (pX13_spelled 115 116 114 105 112 0)) fun x7 => (if x7 = 0 then bd (pX13_isWord g h this (pX13_spelled 115 116 111 112 0 0)) fun x10 => (if x10 = 0 then some (-1) else some 26) else some 25) else some 1) else some 0))
set_option maxRecDepth 10000 in
set_option maxHeartbeats 4000000 in
theorem pX13_plainWord_ok (G : Gx) (dk : Nat) (hK : 1 ≤ dk) {g : MT} {h : CT} {this : Nat} {r0 : Int32} (hf : pX13_plainWord g h this = some r0) : Ctr G dk yX13_plainWord cX13_plainWord 1 (some .int) [va_rf (some this)] g h (some (.int r0)) g h := by
  refine Ctr.ofZ (lv := [(0, va_rf (some this))]) (by decide +kernel) (by simp [cat_i, cat_l, cat_d, cat_rf]) rfl fun X Z => ?_
  unfold pX13_plainWord at hf
  replace hf := tg_i hf
  obtain ⟨t0, hf⟩ := hf
  refine J_aload_n Z.1 0 dX13_plainWord_0 rfl rfl ?_
  refine J_bipush Z.1 (v := 115) (by decide) dX13_plainWord_1 ?_
  refine J_bipush Z.1 (v := 101) (by decide) dX13_plainWord_3 ?_
  refine J_bipush Z.1 (v := 116) (by decide) dX13_plainWord_5 ?_
  refine J_bipush Z.1 (v := 118) (by decide) dX13_plainWord_7 ?_
  refine J_bipush Z.1 (v := 108) (by decide) dX13_plainWord_9 ?_
  refine J_iconst Z.1 (v := 0) (by decide) dX13_plainWord_11 ?_
  refine J_callS (as := [.int 115, .int 101, .int 116, .int 118, .int 108, .int 0]) (rest := [va_rf (some this)]) (sy := [.long (pX13_spelled 115 101 116 118 108 0), va_rf (some this)]) Z.1 dX13_plainWord_12 cw_X13_161 (pX13_spelled_ok G (dk - 1) (by omega) g h 115 101 116 118 108 0) (zG Z) rfl (by simp [cat_i, cat_l, cat_d, cat_rf]) (zF Z (by omega)) (zO Z (by omega) (by decide)) (zM _) Z.2.1 Z.2.1 rfl rfl ?_
  replace hf := bd_i hf
  obtain ⟨x1, q2, hf⟩ := hf
  refine J_callV (ci := 11) (as := [.long (pX13_spelled 115 101 116 118 108 0)]) (rest := []) (sy := [.int x1]) Z.1 dX13_plainWord_15 cw_X13_165 (pX13_isWord_ok G (dk - 1) (by omega) q2) rfl rfl t0 (zG Z) rfl (by decide) (zF Z (by omega)) (zO Z (by omega) (by decide)) (zM _) Z.2.1 Z.2.1 rfl rfl ?_
  refine J_if_eq Z.1 23 dX13_plainWord_18 (by decide) (fun c3 => ?_) (fun c3 => ?_)
  · rw [if_pos c3] at hf
    refine J_aload_n Z.1 0 dX13_plainWord_23 rfl rfl ?_
    refine J_bipush Z.1 (v := 105) (by decide) dX13_plainWord_24 ?_
    refine J_bipush Z.1 (v := 111) (by decide) dX13_plainWord_26 ?_
    refine J_bipush Z.1 (v := 116) (by decide) dX13_plainWord_28 ?_
    refine J_bipush Z.1 (v := 97) (by decide) dX13_plainWord_30 ?_
    refine J_iconst Z.1 (v := 0) (by decide) dX13_plainWord_32 ?_
    refine J_iconst Z.1 (v := 0) (by decide) dX13_plainWord_33 ?_
    refine J_callS (as := [.int 105, .int 111, .int 116, .int 97, .int 0, .int 0]) (rest := [va_rf (some this)]) (sy := [.long (pX13_spelled 105 111 116 97 0 0), va_rf (some this)]) Z.1 dX13_plainWord_34 cw_X13_161 (pX13_spelled_ok G (dk - 1) (by omega) g h 105 111 116 97 0 0) (zG Z) rfl (by simp [cat_i, cat_l, cat_d, cat_rf]) (zF Z (by omega)) (zO Z (by omega) (by decide)) (zM _) Z.2.1 Z.2.1 rfl rfl ?_
    replace hf := bd_i hf
    obtain ⟨x4, q5, hf⟩ := hf
    refine J_callV (ci := 11) (as := [.long (pX13_spelled 105 111 116 97 0 0)]) (rest := []) (sy := [.int x4]) Z.1 dX13_plainWord_37 cw_X13_165 (pX13_isWord_ok G (dk - 1) (by omega) q5) rfl rfl t0 (zG Z) rfl (by decide) (zF Z (by omega)) (zO Z (by omega) (by decide)) (zM _) Z.2.1 Z.2.1 rfl rfl ?_
    refine J_if_eq Z.1 45 dX13_plainWord_40 (by decide) (fun c6 => ?_) (fun c6 => ?_)
    · rw [if_pos c6] at hf
      refine J_aload_n Z.1 0 dX13_plainWord_45 rfl rfl ?_
      refine J_bipush Z.1 (v := 115) (by decide) dX13_plainWord_46 ?_
      refine J_bipush Z.1 (v := 116) (by decide) dX13_plainWord_48 ?_
      refine J_bipush Z.1 (v := 114) (by decide) dX13_plainWord_50 ?_
      refine J_bipush Z.1 (v := 105) (by decide) dX13_plainWord_52 ?_
      refine J_bipush Z.1 (v := 112) (by decide) dX13_plainWord_54 ?_
      refine J_iconst Z.1 (v := 0) (by decide) dX13_plainWord_56 ?_
      refine J_callS (as := [.int 115, .int 116, .int 114, .int 105, .int 112, .int 0]) (rest := [va_rf (some this)]) (sy := [.long (pX13_spelled 115 116 114 105 112 0), va_rf (some this)]) Z.1 dX13_plainWord_57 cw_X13_161 (pX13_spelled_ok G (dk - 1) (by omega) g h 115 116 114 105 112 0) (zG Z) rfl (by simp [cat_i, cat_l, cat_d, cat_rf]) (zF Z (by omega)) (zO Z (by omega) (by decide)) (zM _) Z.2.1 Z.2.1 rfl rfl ?_
      replace hf := bd_i hf
      obtain ⟨x7, q8, hf⟩ := hf
      refine J_callV (ci := 11) (as := [.long (pX13_spelled 115 116 114 105 112 0)]) (rest := []) (sy := [.int x7]) Z.1 dX13_plainWord_60 cw_X13_165 (pX13_isWord_ok G (dk - 1) (by omega) q8) rfl rfl t0 (zG Z) rfl (by decide) (zF Z (by omega)) (zO Z (by omega) (by decide)) (zM _) Z.2.1 Z.2.1 rfl rfl ?_
      refine J_if_eq Z.1 69 dX13_plainWord_63 (by decide) (fun c9 => ?_) (fun c9 => ?_)
      · rw [if_pos c9] at hf
        refine J_aload_n Z.1 0 dX13_plainWord_69 rfl rfl ?_
        refine J_bipush Z.1 (v := 115) (by decide) dX13_plainWord_70 ?_
        refine J_bipush Z.1 (v := 116) (by decide) dX13_plainWord_72 ?_
        refine J_bipush Z.1 (v := 111) (by decide) dX13_plainWord_74 ?_
        refine J_bipush Z.1 (v := 112) (by decide) dX13_plainWord_76 ?_
        refine J_iconst Z.1 (v := 0) (by decide) dX13_plainWord_78 ?_
        refine J_iconst Z.1 (v := 0) (by decide) dX13_plainWord_79 ?_
        refine J_callS (as := [.int 115, .int 116, .int 111, .int 112, .int 0, .int 0]) (rest := [va_rf (some this)]) (sy := [.long (pX13_spelled 115 116 111 112 0 0), va_rf (some this)]) Z.1 dX13_plainWord_80 cw_X13_161 (pX13_spelled_ok G (dk - 1) (by omega) g h 115 116 111 112 0 0) (zG Z) rfl (by simp [cat_i, cat_l, cat_d, cat_rf]) (zF Z (by omega)) (zO Z (by omega) (by decide)) (zM _) Z.2.1 Z.2.1 rfl rfl ?_
        replace hf := bd_i hf
        obtain ⟨x10, q11, hf⟩ := hf
        refine J_callV (ci := 11) (as := [.long (pX13_spelled 115 116 111 112 0 0)]) (rest := []) (sy := [.int x10]) Z.1 dX13_plainWord_83 cw_X13_165 (pX13_isWord_ok G (dk - 1) (by omega) q11) rfl rfl t0 (zG Z) rfl (by decide) (zF Z (by omega)) (zO Z (by omega) (by decide)) (zM _) Z.2.1 Z.2.1 rfl rfl ?_
        refine J_if_eq Z.1 94 dX13_plainWord_86 (by decide) (fun c12 => ?_) (fun c12 => ?_)
        · rw [if_pos c12] at hf
          refine J_iconst Z.1 (v := (-1)) (by decide) dX13_plainWord_94 ?_
          cases hf
          exact J_iret Z.1 Z.2.2.2.2.2 dX13_plainWord_95
        · rw [if_neg c12] at hf
          refine J_bipush Z.1 (v := 26) (by decide) dX13_plainWord_89 ?_
          refine J_goto Z.1 95 dX13_plainWord_91 (by decide) ?_
          cases hf
          exact J_iret Z.1 Z.2.2.2.2.2 dX13_plainWord_95
      · rw [if_neg c9] at hf
        refine J_bipush Z.1 (v := 25) (by decide) dX13_plainWord_66 ?_
        cases hf
        exact J_iret Z.1 Z.2.2.2.2.2 dX13_plainWord_68
    · rw [if_neg c6] at hf
      refine J_iconst Z.1 (v := 1) (by decide) dX13_plainWord_43 ?_
      cases hf
      exact J_iret Z.1 Z.2.2.2.2.2 dX13_plainWord_44
  · rw [if_neg c3] at hf
    refine J_iconst Z.1 (v := 0) (by decide) dX13_plainWord_21 ?_
    cases hf
    exact J_iret Z.1 Z.2.2.2.2.2 dX13_plainWord_22
theorem dX13_codeWord_0 : decode cX13_codeWord 0 = .ok (.aload_n 0, 1) := by decide +kernel
theorem dX13_codeWord_1 : decode cX13_codeWord 1 = .ok (.invokevirtual 171, 3) := by decide +kernel
theorem dX13_codeWord_4 : decode cX13_codeWord 4 = .ok (.aload_n 0, 1) := by decide +kernel
theorem dX13_codeWord_5 : decode cX13_codeWord 5 = .ok (.invokevirtual 175, 3) := by decide +kernel
theorem dX13_codeWord_8 : decode cX13_codeWord 8 = .ok (.invokestatic 178, 3) := by decide +kernel
theorem dX13_codeWord_11 : decode cX13_codeWord 11 = .ok (.aload_n 0, 1) := by decide +kernel
theorem dX13_codeWord_12 : decode cX13_codeWord 12 = .ok (.invokevirtual 183, 3) := by decide +kernel
theorem dX13_codeWord_15 : decode cX13_codeWord 15 = .ok (.aload_n 0, 1) := by decide +kernel
theorem dX13_codeWord_16 : decode cX13_codeWord 16 = .ok (.invokevirtual 186, 3) := by decide +kernel
theorem dX13_codeWord_19 : decode cX13_codeWord 19 = .ok (.invokestatic 178, 3) := by decide +kernel
theorem dX13_codeWord_22 : decode cX13_codeWord 22 = .ok (.invokestatic 178, 3) := by decide +kernel
theorem dX13_codeWord_25 : decode cX13_codeWord 25 = .ok (.aload_n 0, 1) := by decide +kernel
theorem dX13_codeWord_26 : decode cX13_codeWord 26 = .ok (.invokevirtual 189, 3) := by decide +kernel
theorem dX13_codeWord_29 : decode cX13_codeWord 29 = .ok (.aload_n 0, 1) := by decide +kernel
theorem dX13_codeWord_30 : decode cX13_codeWord 30 = .ok (.invokevirtual 192, 3) := by decide +kernel
theorem dX13_codeWord_33 : decode cX13_codeWord 33 = .ok (.invokestatic 178, 3) := by decide +kernel
theorem dX13_codeWord_36 : decode cX13_codeWord 36 = .ok (.invokestatic 178, 3) := by decide +kernel
theorem dX13_codeWord_39 : decode cX13_codeWord 39 = .ok (.ireturn, 1) := by decide +kernel
def pX13_codeWord (g : MT) (h : CT) (this : Nat) : Option Int32 := tg g this 12 (bd (pX13_twoWord g h this) fun x1 => (bd (pX13_oneWord g h this) fun x3 => (bd (pX13_memoryWord g h this) fun x5 => (bd (pX13_maskWord g h this) fun x7 => (bd (pX13_scalarWord g h this) fun x9 => (bd (pX13_plainWord g h this) fun x11 => (some (pJ9_max_7cf53 (pJ9_max_7cf53 (pJ9_max_7cf53 x1 x3) (pJ9_max_7cf53 x5 x7)) (pJ9_max_7cf53 x9 x11)))))))))
set_option maxRecDepth 10000 in
set_option maxHeartbeats 4000000 in
theorem pX13_codeWord_ok (G : Gx) (dk : Nat) (hK : 2 ≤ dk) {g : MT} {h : CT} {this : Nat} {r0 : Int32} (hf : pX13_codeWord g h this = some r0) : Ctr G dk yX13_codeWord cX13_codeWord 1 (some .int) [va_rf (some this)] g h (some (.int r0)) g h := by
  refine Ctr.ofZ (lv := [(0, va_rf (some this))]) (by decide +kernel) (by simp [cat_i, cat_l, cat_d, cat_rf]) rfl fun X Z => ?_
  unfold pX13_codeWord at hf
  replace hf := tg_i hf
  obtain ⟨t0, hf⟩ := hf
  refine J_aload_n Z.1 0 dX13_codeWord_0 rfl rfl ?_
  replace hf := bd_i hf
  obtain ⟨x1, q2, hf⟩ := hf
  refine J_callV (ci := 11) (as := []) (rest := []) (sy := [.int x1]) Z.1 dX13_codeWord_1 cw_X13_171 (pX13_twoWord_ok G (dk - 1) (by omega) q2) rfl rfl t0 (zG Z) rfl (by decide) (zF Z (by omega)) (zO Z (by omega) (by decide)) (zM _) Z.2.1 Z.2.1 rfl rfl ?_
  refine J_aload_n Z.1 0 dX13_codeWord_4 rfl rfl ?_
  replace hf := bd_i hf
  obtain ⟨x3, q4, hf⟩ := hf
  refine J_callV (ci := 11) (as := []) (rest := [.int x1]) (sy := [.int x3, .int x1]) Z.1 dX13_codeWord_5 cw_X13_175 (pX13_oneWord_ok G (dk - 1) (by omega) q4) rfl rfl t0 (zG Z) rfl (by simp [cat_i, cat_l, cat_d, cat_rf]) (zF Z (by omega)) (zO Z (by omega) (by decide)) (zM _) Z.2.1 Z.2.1 rfl rfl ?_
  refine J_callS (as := [.int x1, .int x3]) (rest := []) (sy := [.int (pJ9_max_7cf53 x1 x3)]) Z.1 dX13_codeWord_8 cw_X13_178 (pJ9_max_7cf53_ok G (dk - 1) (by omega) g h x1 x3) (zG Z) rfl (by decide) (zF Z (by omega)) (zO Z (by omega) (by decide)) (zM _) Z.2.1 Z.2.1 rfl rfl ?_
  refine J_aload_n Z.1 0 dX13_codeWord_11 rfl rfl ?_
  replace hf := bd_i hf
  obtain ⟨x5, q6, hf⟩ := hf
  refine J_callV (ci := 11) (as := []) (rest := [.int (pJ9_max_7cf53 x1 x3)]) (sy := [.int x5, .int (pJ9_max_7cf53 x1 x3)]) Z.1 dX13_codeWord_12 cw_X13_183 (pX13_memoryWord_ok G (dk - 1) (by omega) q6) rfl rfl t0 (zG Z) rfl (by simp [cat_i, cat_l, cat_d, cat_rf]) (zF Z (by omega)) (zO Z (by omega) (by decide)) (zM _) Z.2.1 Z.2.1 rfl rfl ?_
  refine J_aload_n Z.1 0 dX13_codeWord_15 rfl rfl ?_
  replace hf := bd_i hf
  obtain ⟨x7, q8, hf⟩ := hf
  refine J_callV (ci := 11) (as := []) (rest := [.int x5, .int (pJ9_max_7cf53 x1 x3)]) (sy := [.int x7, .int x5, .int (pJ9_max_7cf53 x1 x3)]) Z.1 dX13_codeWord_16 cw_X13_186 (pX13_maskWord_ok G (dk - 1) (by omega) q8) rfl rfl t0 (zG Z) rfl (by simp [cat_i, cat_l, cat_d, cat_rf]) (zF Z (by omega)) (zO Z (by omega) (by decide)) (zM _) Z.2.1 Z.2.1 rfl rfl ?_
  refine J_callS (as := [.int x5, .int x7]) (rest := [.int (pJ9_max_7cf53 x1 x3)]) (sy := [.int (pJ9_max_7cf53 x5 x7), .int (pJ9_max_7cf53 x1 x3)]) Z.1 dX13_codeWord_19 cw_X13_178 (pJ9_max_7cf53_ok G (dk - 1) (by omega) g h x5 x7) (zG Z) rfl (by simp [cat_i, cat_l, cat_d, cat_rf]) (zF Z (by omega)) (zO Z (by omega) (by decide)) (zM _) Z.2.1 Z.2.1 rfl rfl ?_
  refine J_callS (as := [.int (pJ9_max_7cf53 x1 x3), .int (pJ9_max_7cf53 x5 x7)]) (rest := []) (sy := [.int (pJ9_max_7cf53 (pJ9_max_7cf53 x1 x3) (pJ9_max_7cf53 x5 x7))]) Z.1 dX13_codeWord_22 cw_X13_178 (pJ9_max_7cf53_ok G (dk - 1) (by omega) g h (pJ9_max_7cf53 x1 x3) (pJ9_max_7cf53 x5 x7)) (zG Z) rfl (by decide) (zF Z (by omega)) (zO Z (by omega) (by decide)) (zM _) Z.2.1 Z.2.1 rfl rfl ?_
  refine J_aload_n Z.1 0 dX13_codeWord_25 rfl rfl ?_
  replace hf := bd_i hf
  obtain ⟨x9, q10, hf⟩ := hf
  refine J_callV (ci := 11) (as := []) (rest := [.int (pJ9_max_7cf53 (pJ9_max_7cf53 x1 x3) (pJ9_max_7cf53 x5 x7))]) (sy := [.int x9, .int (pJ9_max_7cf53 (pJ9_max_7cf53 x1 x3) (pJ9_max_7cf53 x5 x7))]) Z.1 dX13_codeWord_26 cw_X13_189 (pX13_scalarWord_ok G (dk - 1) (by omega) q10) rfl rfl t0 (zG Z) rfl (by simp [cat_i, cat_l, cat_d, cat_rf]) (zF Z (by omega)) (zO Z (by omega) (by decide)) (zM _) Z.2.1 Z.2.1 rfl rfl ?_
  refine J_aload_n Z.1 0 dX13_codeWord_29 rfl rfl ?_
  replace hf := bd_i hf
  obtain ⟨x11, q12, hf⟩ := hf
  refine J_callV (ci := 11) (as := []) (rest := [.int x9, .int (pJ9_max_7cf53 (pJ9_max_7cf53 x1 x3) (pJ9_max_7cf53 x5 x7))]) (sy := [.int x11, .int x9, .int (pJ9_max_7cf53 (pJ9_max_7cf53 x1 x3) (pJ9_max_7cf53 x5 x7))]) Z.1 dX13_codeWord_30 cw_X13_192 (pX13_plainWord_ok G (dk - 1) (by omega) q12) rfl rfl t0 (zG Z) rfl (by simp [cat_i, cat_l, cat_d, cat_rf]) (zF Z (by omega)) (zO Z (by omega) (by decide)) (zM _) Z.2.1 Z.2.1 rfl rfl ?_
  refine J_callS (as := [.int x9, .int x11]) (rest := [.int (pJ9_max_7cf53 (pJ9_max_7cf53 x1 x3) (pJ9_max_7cf53 x5 x7))]) (sy := [.int (pJ9_max_7cf53 x9 x11), .int (pJ9_max_7cf53 (pJ9_max_7cf53 x1 x3) (pJ9_max_7cf53 x5 x7))]) Z.1 dX13_codeWord_33 cw_X13_178 (pJ9_max_7cf53_ok G (dk - 1) (by omega) g h x9 x11) (zG Z) rfl (by simp [cat_i, cat_l, cat_d, cat_rf]) (zF Z (by omega)) (zO Z (by omega) (by decide)) (zM _) Z.2.1 Z.2.1 rfl rfl ?_
  refine J_callS (as := [.int (pJ9_max_7cf53 (pJ9_max_7cf53 x1 x3) (pJ9_max_7cf53 x5 x7)), .int (pJ9_max_7cf53 x9 x11)]) (rest := []) (sy := [.int (pJ9_max_7cf53 (pJ9_max_7cf53 (pJ9_max_7cf53 x1 x3) (pJ9_max_7cf53 x5 x7)) (pJ9_max_7cf53 x9 x11))]) Z.1 dX13_codeWord_36 cw_X13_178 (pJ9_max_7cf53_ok G (dk - 1) (by omega) g h (pJ9_max_7cf53 (pJ9_max_7cf53 x1 x3) (pJ9_max_7cf53 x5 x7)) (pJ9_max_7cf53 x9 x11)) (zG Z) rfl (by decide) (zF Z (by omega)) (zO Z (by omega) (by decide)) (zM _) Z.2.1 Z.2.1 rfl rfl ?_
  cases hf
  exact J_iret Z.1 Z.2.2.2.2.2 dX13_codeWord_39
theorem dX13_fail_0 : decode cX13_fail 0 = .ok (.aload_n 0, 1) := by decide +kernel
theorem dX13_fail_1 : decode cX13_fail 1 = .ok (.getfield 195, 3) := by decide +kernel
theorem dX13_fail_4 : decode cX13_fail 4 = .ok (.ifCond .le 4, 3) := by decide +kernel
theorem dX13_fail_7 : decode cX13_fail 7 = .ok (.return_, 1) := by decide +kernel
theorem dX13_fail_8 : decode cX13_fail 8 = .ok (.aload_n 0, 1) := by decide +kernel
theorem dX13_fail_9 : decode cX13_fail 9 = .ok (.iload_n 1, 1) := by decide +kernel
theorem dX13_fail_10 : decode cX13_fail 10 = .ok (.putfield 195, 3) := by decide +kernel
theorem dX13_fail_13 : decode cX13_fail 13 = .ok (.aload_n 0, 1) := by decide +kernel
theorem dX13_fail_14 : decode cX13_fail 14 = .ok (.iload_n 2, 1) := by decide +kernel
theorem dX13_fail_15 : decode cX13_fail 15 = .ok (.putfield 198, 3) := by decide +kernel
theorem dX13_fail_18 : decode cX13_fail 18 = .ok (.return_, 1) := by decide +kernel
def pX13_fail (g : MT) (h : CT) (this : Nat) (p1 : Int32) (p2 : Int32) : Option CT := tg g this 12 (if (hI h this 12) ≤ 0 then lt (sI h this 12 p1) fun h2 => (lt (sI h2 this 13 p2) fun h3 => (some h3)) else some h)
set_option maxRecDepth 10000 in
set_option maxHeartbeats 4000000 in
theorem pX13_fail_ok (G : Gx) (dk : Nat) (hK : 0 ≤ dk) {g : MT} {h h0 : CT} {this : Nat} {p1 : Int32} {p2 : Int32} (hf : pX13_fail g h this p1 p2 = some h0) : Ctr G dk yX13_fail cX13_fail 3 none [va_rf (some this), .int p1, .int p2] g h none g h0 := by
  refine Ctr.ofZ (lv := [(0, va_rf (some this)), (1, .int p1), (2, .int p2)]) (by decide +kernel) (by simp [cat_i, cat_l, cat_d, cat_rf]) rfl fun X Z => ?_
  unfold pX13_fail at hf
  replace hf := tg_i hf
  obtain ⟨t0, hf⟩ := hf
  refine J_aload_n Z.1 0 dX13_fail_0 rfl rfl ?_
  refine J_get (v := .int (hI h this 12)) Z.1 dX13_fail_1 fl_X13_195 t0 rfl ?_
  refine J_if_le Z.1 8 dX13_fail_4 (by decide) (fun c1 => ?_) (fun c1 => ?_)
  · rw [if_pos c1] at hf
    refine J_aload_n Z.1 0 dX13_fail_8 rfl rfl ?_
    refine J_iload_n Z.1 1 dX13_fail_9 rfl rfl ?_
    refine J_putI Z.1 dX13_fail_10 fl_X13_195 (fun q => by cases q) t0 rfl rfl (congrArg Value.int (hI_s _ _ _ _)) ?_
    refine J_th (fun h2 eh2 => ?_)
    replace hf := lt_i hf h2 eh2
    refine J_aload_n Z.1 0 dX13_fail_13 rfl rfl ?_
    refine J_iload_n Z.1 2 dX13_fail_14 rfl rfl ?_
    refine J_putI Z.1 dX13_fail_15 fl_X13_198 (fun q => by cases q) t0 rfl rfl (congrArg Value.int (hI_s _ _ _ _)) ?_
    refine J_th (fun h3 eh3 => ?_)
    replace hf := lt_i hf h3 eh3
    cases hf
    exact J_vret Z.1 Z.2.2.2.2.2 dX13_fail_18
  · rw [if_neg c1] at hf
    cases hf
    exact J_vret Z.1 Z.2.2.2.2.2 dX13_fail_7
theorem dX13_amiss_0 : decode cX13_amiss 0 = .ok (.aload_n 0, 1) := by decide +kernel
theorem dX13_amiss_1 : decode cX13_amiss 1 = .ok (.aload_n 0, 1) := by decide +kernel
theorem dX13_amiss_2 : decode cX13_amiss 2 = .ok (.getfield 142, 3) := by decide +kernel
theorem dX13_amiss_5 : decode cX13_amiss 5 = .ok (.iconst 4, 1) := by decide +kernel
theorem dX13_amiss_6 : decode cX13_amiss 6 = .ok (.if_icmp .ne 7, 3) := by decide +kernel
theorem dX13_amiss_9 : decode cX13_amiss 9 = .ok (.iconst 1, 1) := by decide +kernel
theorem dX13_amiss_10 : decode cX13_amiss 10 = .ok (.goto 4, 3) := by decide +kernel
theorem dX13_amiss_13 : decode cX13_amiss 13 = .ok (.iconst 2, 1) := by decide +kernel
theorem dX13_amiss_14 : decode cX13_amiss 14 = .ok (.aload_n 0, 1) := by decide +kernel
theorem dX13_amiss_15 : decode cX13_amiss 15 = .ok (.getfield 136, 3) := by decide +kernel
theorem dX13_amiss_18 : decode cX13_amiss 18 = .ok (.invokevirtual 201, 3) := by decide +kernel
theorem dX13_amiss_21 : decode cX13_amiss 21 = .ok (.return_, 1) := by decide +kernel
def pX13_amiss_b14 (g : MT) (this : Nat) (s0 : Nat) (s1 : Int32) (h : CT) : Option CT := tg g s0 12 (bd (pX13_fail g h s0 s1 (hI h this 15)) fun h2 => (some h2))
set_option maxRecDepth 10000 in
set_option maxHeartbeats 4000000 in
theorem pX13_amiss_b14_ok {X : Cx} {G : Gx} {dk : Nat} {g : MT} {h0 : CT} {this : Nat} (Z : Zx X G cX13_amiss RX13 1 dk none none g h0) (hK : 1 ≤ dk) (t0 : gT g this = 12) (s0 : Nat) (s1 : Int32) (h : CT) (hf : pX13_amiss_b14 g this s0 s1 h = some h0) : J X g h 14 [(0, va_rf (some this))] [.int s1, va_rf (some s0)] := by
  unfold pX13_amiss_b14 at hf
  refine J_aload_n Z.1 0 dX13_amiss_14 rfl rfl ?_
  refine J_get (v := .int (hI h this 15)) Z.1 dX13_amiss_15 fl_X13_136 t0 rfl ?_
  replace hf := tg_i hf
  obtain ⟨t1, hf⟩ := hf
  replace hf := bd_i hf
  obtain ⟨h2, q3, hf⟩ := hf
  refine J_callV (ci := 11) (as := [.int s1, .int (hI h this 15)]) (rest := []) (sy := []) Z.1 dX13_amiss_18 cw_X13_201 (pX13_fail_ok G (dk - 1) (by omega) q3) rfl rfl t1 (zG Z) rfl (by decide) (zF Z (by omega)) (zO Z (by omega) (by decide)) (zM _) Z.2.1 Z.2.1 rfl rfl ?_
  cases hf
  exact J_vret Z.1 Z.2.2.2.2.2 dX13_amiss_21
def pX13_amiss (g : MT) (h : CT) (this : Nat) : Option CT := tg g this 12 (if (hI h this 14) = 4 then pX13_amiss_b14 g this  this 1 h else pX13_amiss_b14 g this  this 2 h)
set_option maxRecDepth 10000 in
set_option maxHeartbeats 4000000 in
theorem pX13_amiss_ok (G : Gx) (dk : Nat) (hK : 1 ≤ dk) {g : MT} {h h0 : CT} {this : Nat} (hf : pX13_amiss g h this = some h0) : Ctr G dk yX13_amiss cX13_amiss 1 none [va_rf (some this)] g h none g h0 := by
  refine Ctr.ofZ (lv := [(0, va_rf (some this))]) (by decide +kernel) (by simp [cat_i, cat_l, cat_d, cat_rf]) rfl fun X Z => ?_
  unfold pX13_amiss at hf
  replace hf := tg_i hf
  obtain ⟨t0, hf⟩ := hf
  refine J_aload_n Z.1 0 dX13_amiss_0 rfl rfl ?_
  refine J_aload_n Z.1 0 dX13_amiss_1 rfl rfl ?_
  refine J_get (v := .int (hI h this 14)) Z.1 dX13_amiss_2 fl_X13_142 t0 rfl ?_
  refine J_iconst Z.1 (v := 4) (by decide) dX13_amiss_5 ?_
  refine J_icmp_ne Z.1 13 dX13_amiss_6 (by decide) (fun c1 => ?_) (fun c1 => ?_)
  · rw [if_neg c1] at hf
    refine J_iconst Z.1 (v := 2) (by decide) dX13_amiss_13 ?_
    exact pX13_amiss_b14_ok Z hK t0  _ _ _ hf
  · rw [if_pos c1] at hf
    refine J_iconst Z.1 (v := 1) (by decide) dX13_amiss_9 ?_
    refine J_goto Z.1 14 dX13_amiss_10 (by decide) ?_
    exact pX13_amiss_b14_ok Z hK t0  _ _ _ hf
theorem dX13_must_0 : decode cX13_must 0 = .ok (.aload_n 0, 1) := by decide +kernel
theorem dX13_must_1 : decode cX13_must 1 = .ok (.getfield 195, 3) := by decide +kernel
theorem dX13_must_4 : decode cX13_must 4 = .ok (.ifCond .le 4, 3) := by decide +kernel
theorem dX13_must_7 : decode cX13_must 7 = .ok (.return_, 1) := by decide +kernel
theorem dX13_must_8 : decode cX13_must 8 = .ok (.iload_n 1, 1) := by decide +kernel
theorem dX13_must_9 : decode cX13_must 9 = .ok (.ifCond .eq 10, 3) := by decide +kernel
theorem dX13_must_12 : decode cX13_must 12 = .ok (.aload_n 0, 1) := by decide +kernel
theorem dX13_must_13 : decode cX13_must 13 = .ok (.invokevirtual 205, 3) := by decide +kernel
theorem dX13_must_16 : decode cX13_must 16 = .ok (.goto 7, 3) := by decide +kernel
theorem dX13_must_19 : decode cX13_must 19 = .ok (.aload_n 0, 1) := by decide +kernel
theorem dX13_must_20 : decode cX13_must 20 = .ok (.invokevirtual 208, 3) := by decide +kernel
theorem dX13_must_23 : decode cX13_must 23 = .ok (.return_, 1) := by decide +kernel
def pX13_must (g : MT) (h : CT) (this : Nat) (p1 : Int32) : Option CT := tg g this 12 (if (hI h this 12) ≤ 0 then if p1 = 0 then bd (pX13_amiss g h this) fun h3 => (some h3) else bd (pX13_advance g h this) fun h5 => (some h5) else some h)
set_option maxRecDepth 10000 in
set_option maxHeartbeats 4000000 in
theorem pX13_must_ok (G : Gx) (dk : Nat) (hK : 2 ≤ dk) {g : MT} {h h0 : CT} {this : Nat} {p1 : Int32} (hf : pX13_must g h this p1 = some h0) : Ctr G dk yX13_must cX13_must 2 none [va_rf (some this), .int p1] g h none g h0 := by
  refine Ctr.ofZ (lv := [(0, va_rf (some this)), (1, .int p1)]) (by decide +kernel) (by simp [cat_i, cat_l, cat_d, cat_rf]) rfl fun X Z => ?_
  unfold pX13_must at hf
  replace hf := tg_i hf
  obtain ⟨t0, hf⟩ := hf
  refine J_aload_n Z.1 0 dX13_must_0 rfl rfl ?_
  refine J_get (v := .int (hI h this 12)) Z.1 dX13_must_1 fl_X13_195 t0 rfl ?_
  refine J_if_le Z.1 8 dX13_must_4 (by decide) (fun c1 => ?_) (fun c1 => ?_)
  · rw [if_pos c1] at hf
    refine J_iload_n Z.1 1 dX13_must_8 rfl rfl ?_
    refine J_if_eq Z.1 19 dX13_must_9 (by decide) (fun c2 => ?_) (fun c2 => ?_)
    · rw [if_pos c2] at hf
      refine J_aload_n Z.1 0 dX13_must_19 rfl rfl ?_
      replace hf := bd_i hf
      obtain ⟨h3, q4, hf⟩ := hf
      refine J_callV (ci := 11) (as := []) (rest := []) (sy := []) Z.1 dX13_must_20 cw_X13_208 (pX13_amiss_ok G (dk - 1) (by omega) q4) rfl rfl t0 (zG Z) rfl (by decide) (zF Z (by omega)) (zO Z (by omega) (by decide)) (zM _) Z.2.1 Z.2.1 rfl rfl ?_
      cases hf
      exact J_vret Z.1 Z.2.2.2.2.2 dX13_must_23
    · rw [if_neg c2] at hf
      refine J_aload_n Z.1 0 dX13_must_12 rfl rfl ?_
      replace hf := bd_i hf
      obtain ⟨h5, q6, hf⟩ := hf
      refine J_callV (ci := 11) (as := []) (rest := []) (sy := []) Z.1 dX13_must_13 cw_X13_205 (pX13_advance_ok G (dk - 1) (by omega) q6) rfl rfl t0 (zG Z) rfl (by decide) (zF Z (by omega)) (zO Z (by omega) (by decide)) (zM _) Z.2.1 Z.2.1 rfl rfl ?_
      refine J_goto Z.1 23 dX13_must_16 (by decide) ?_
      cases hf
      exact J_vret Z.1 Z.2.2.2.2.2 dX13_must_23
  · rw [if_neg c1] at hf
    cases hf
    exact J_vret Z.1 Z.2.2.2.2.2 dX13_must_7
theorem dX13_countOf_0 : decode cX13_countOf 0 = .ok (.aload_n 0, 1) := by decide +kernel
theorem dX13_countOf_1 : decode cX13_countOf 1 = .ok (.getfield 195, 3) := by decide +kernel
theorem dX13_countOf_4 : decode cX13_countOf 4 = .ok (.ifCond .ne 15, 3) := by decide +kernel
theorem dX13_countOf_7 : decode cX13_countOf 7 = .ok (.aload_n 0, 1) := by decide +kernel
theorem dX13_countOf_8 : decode cX13_countOf 8 = .ok (.getfield 142, 3) := by decide +kernel
theorem dX13_countOf_11 : decode cX13_countOf 11 = .ok (.iconst 2, 1) := by decide +kernel
theorem dX13_countOf_12 : decode cX13_countOf 12 = .ok (.if_icmp .eq 7, 3) := by decide +kernel
theorem dX13_countOf_15 : decode cX13_countOf 15 = .ok (.aload_n 0, 1) := by decide +kernel
theorem dX13_countOf_16 : decode cX13_countOf 16 = .ok (.invokevirtual 208, 3) := by decide +kernel
theorem dX13_countOf_19 : decode cX13_countOf 19 = .ok (.aload_n 0, 1) := by decide +kernel
theorem dX13_countOf_20 : decode cX13_countOf 20 = .ok (.getfield 195, 3) := by decide +kernel
theorem dX13_countOf_23 : decode cX13_countOf 23 = .ok (.ifCond .ne 27, 3) := by decide +kernel
theorem dX13_countOf_26 : decode cX13_countOf 26 = .ok (.aload_n 0, 1) := by decide +kernel
theorem dX13_countOf_27 : decode cX13_countOf 27 = .ok (.getfield 158, 3) := by decide +kernel
theorem dX13_countOf_30 : decode cX13_countOf 30 = .ok (.i2l, 1) := by decide +kernel
theorem dX13_countOf_31 : decode cX13_countOf 31 = .ok (.iload_n 1, 1) := by decide +kernel
theorem dX13_countOf_32 : decode cX13_countOf 32 = .ok (.i2l, 1) := by decide +kernel
theorem dX13_countOf_33 : decode cX13_countOf 33 = .ok (.iload_n 2, 1) := by decide +kernel
theorem dX13_countOf_34 : decode cX13_countOf 34 = .ok (.i2l, 1) := by decide +kernel
theorem dX13_countOf_35 : decode cX13_countOf 35 = .ok (.invokestatic 104, 3) := by decide +kernel
theorem dX13_countOf_38 : decode cX13_countOf 38 = .ok (.ifCond .ne 12, 3) := by decide +kernel
theorem dX13_countOf_41 : decode cX13_countOf 41 = .ok (.aload_n 0, 1) := by decide +kernel
theorem dX13_countOf_42 : decode cX13_countOf 42 = .ok (.iconst 4, 1) := by decide +kernel
theorem dX13_countOf_43 : decode cX13_countOf 43 = .ok (.aload_n 0, 1) := by decide +kernel
theorem dX13_countOf_44 : decode cX13_countOf 44 = .ok (.getfield 136, 3) := by decide +kernel
theorem dX13_countOf_47 : decode cX13_countOf 47 = .ok (.invokevirtual 201, 3) := by decide +kernel
theorem dX13_countOf_50 : decode cX13_countOf 50 = .ok (.aload_n 0, 1) := by decide +kernel
theorem dX13_countOf_51 : decode cX13_countOf 51 = .ok (.getfield 195, 3) := by decide +kernel
theorem dX13_countOf_54 : decode cX13_countOf 54 = .ok (.ifCond .le 5, 3) := by decide +kernel
theorem dX13_countOf_57 : decode cX13_countOf 57 = .ok (.iconst 0, 1) := by decide +kernel
theorem dX13_countOf_58 : decode cX13_countOf 58 = .ok (.ireturn, 1) := by decide +kernel
theorem dX13_countOf_59 : decode cX13_countOf 59 = .ok (.aload_n 0, 1) := by decide +kernel
theorem dX13_countOf_60 : decode cX13_countOf 60 = .ok (.getfield 158, 3) := by decide +kernel
theorem dX13_countOf_63 : decode cX13_countOf 63 = .ok (.istore_n 3, 1) := by decide +kernel
theorem dX13_countOf_64 : decode cX13_countOf 64 = .ok (.aload_n 0, 1) := by decide +kernel
theorem dX13_countOf_65 : decode cX13_countOf 65 = .ok (.invokevirtual 205, 3) := by decide +kernel
theorem dX13_countOf_68 : decode cX13_countOf 68 = .ok (.iload_n 3, 1) := by decide +kernel
theorem dX13_countOf_69 : decode cX13_countOf 69 = .ok (.ireturn, 1) := by decide +kernel
def pX13_countOf_b50 (g : MT) (this : Nat) (p1 : Int32) (p2 : Int32) (h : CT) : Option ((Int32) × CT) := if (hI h this 12) ≤ 0 then lt (hI h this 17) fun x2 => (bd (pX13_advance g h this) fun h3 => (some (x2, h3))) else some (0, h)
set_option maxRecDepth 10000 in
set_option maxHeartbeats 4000000 in
theorem pX13_countOf_b50_ok {X : Cx} {G : Gx} {dk : Nat} {g : MT} {r0 : Int32} {h0 : CT} {this : Nat} {p1 : Int32} {p2 : Int32} (Z : Zx X G cX13_countOf RX13 4 dk (some .int) (some (.int r0)) g h0) (hK : 2 ≤ dk) (t0 : gT g this = 12) (h : CT) (hf : pX13_countOf_b50 g this p1 p2 h = some (r0, h0)) : J X g h 50 [(0, va_rf (some this))] [] := by
  unfold pX13_countOf_b50 at hf
  refine J_aload_n Z.1 0 dX13_countOf_50 rfl rfl ?_
  refine J_get (v := .int (hI h this 12)) Z.1 dX13_countOf_51 fl_X13_195 t0 rfl ?_
  refine J_if_le Z.1 59 dX13_countOf_54 (by decide) (fun c1 => ?_) (fun c1 => ?_)
  · rw [if_pos c1] at hf
    refine J_aload_n Z.1 0 dX13_countOf_59 rfl rfl ?_
    refine J_get (v := .int (hI h this 17)) Z.1 dX13_countOf_60 fl_X13_158 t0 rfl ?_
    refine J_ti (fun x2 ex2 => ?_)
    replace hf := lt_i hf x2 ex2
    refine J_istore_n Z.1 (lv2 := [(3, .int x2), (0, va_rf (some this))]) dX13_countOf_63 rfl (zL Z (by decide)) rfl ?_
    refine J_aload_n Z.1 1 dX13_countOf_64 rfl rfl ?_
    replace hf := bd_i hf
    obtain ⟨h3, q4, hf⟩ := hf
    refine J_callV (ci := 11) (as := []) (rest := []) (sy := []) Z.1 dX13_countOf_65 cw_X13_205 (pX13_advance_ok G (dk - 1) (by omega) q4) rfl rfl t0 (zG Z) rfl (by decide) (zF Z (by omega)) (zO Z (by omega) (by decide)) (zM _) Z.2.1 Z.2.1 rfl rfl ?_
    refine J_iload_n Z.1 0 dX13_countOf_68 rfl rfl ?_
    cases hf
    exact J_iret Z.1 Z.2.2.2.2.2 dX13_countOf_69
  · rw [if_neg c1] at hf
    refine J_iconst Z.1 (v := 0) (by decide) dX13_countOf_57 ?_
    cases hf
    exact J_iret Z.1 Z.2.2.2.2.2 dX13_countOf_58
def pX13_countOf_b19 (g : MT) (this : Nat) (p1 : Int32) (p2 : Int32) (h : CT) : Option ((Int32) × CT) := if (hI h this 12) = 0 then if (pX13_isIn (Int32.toInt64 (hI h this 17)) (Int32.toInt64 p1) (Int32.toInt64 p2)) = 0 then bd (pX13_fail g h this 4 (hI h this 15)) fun h3 => (pX13_countOf_b50 g this p1 p2  h3) else pX13_countOf_b50 g this p1 p2  h else pX13_countOf_b50 g this p1 p2  h
set_option maxRecDepth 10000 in
set_option maxHeartbeats 4000000 in
theorem pX13_countOf_b19_ok {X : Cx} {G : Gx} {dk : Nat} {g : MT} {r0 : Int32} {h0 : CT} {this : Nat} {p1 : Int32} {p2 : Int32} (Z : Zx X G cX13_countOf RX13 4 dk (some .int) (some (.int r0)) g h0) (hK : 2 ≤ dk) (t0 : gT g this = 12) (h : CT) (hf : pX13_countOf_b19 g this p1 p2 h = some (r0, h0)) : J X g h 19 [(0, va_rf (some this)), (1, .int p1), (2, .int p2)] [] := by
  unfold pX13_countOf_b19 at hf
  refine J_aload_n Z.1 0 dX13_countOf_19 rfl rfl ?_
  refine J_get (v := .int (hI h this 12)) Z.1 dX13_countOf_20 fl_X13_195 t0 rfl ?_
  refine J_if_ne Z.1 50 dX13_countOf_23 (by decide) (fun c1 => ?_) (fun c1 => ?_)
  · rw [if_neg c1] at hf
    refine J_lv [0] rfl ?_
    exact pX13_countOf_b50_ok Z hK t0  _ hf
  · rw [if_pos c1] at hf
    refine J_aload_n Z.1 0 dX13_countOf_26 rfl rfl ?_
    refine J_get (v := .int (hI h this 17)) Z.1 dX13_countOf_27 fl_X13_158 t0 rfl ?_
    refine J_i2l Z.1 dX13_countOf_30 ?_
    refine J_iload_n Z.1 1 dX13_countOf_31 rfl rfl ?_
    refine J_i2l Z.1 dX13_countOf_32 ?_
    refine J_iload_n Z.1 2 dX13_countOf_33 rfl rfl ?_
    refine J_i2l Z.1 dX13_countOf_34 ?_
    refine J_callS (as := [.long (Int32.toInt64 (hI h this 17)), .long (Int32.toInt64 p1), .long (Int32.toInt64 p2)]) (rest := []) (sy := [.int (pX13_isIn (Int32.toInt64 (hI h this 17)) (Int32.toInt64 p1) (Int32.toInt64 p2))]) Z.1 dX13_countOf_35 cw_X13_104 (pX13_isIn_ok G (dk - 1) (by omega) g h (Int32.toInt64 (hI h this 17)) (Int32.toInt64 p1) (Int32.toInt64 p2)) (zG Z) rfl (by decide) (zF Z (by omega)) (zO Z (by omega) (by decide)) (zM _) Z.2.1 Z.2.1 rfl rfl ?_
    refine J_if_ne Z.1 50 dX13_countOf_38 (by decide) (fun c2 => ?_) (fun c2 => ?_)
    · rw [if_neg c2] at hf
      refine J_lv [0] rfl ?_
      exact pX13_countOf_b50_ok Z hK t0  _ hf
    · rw [if_pos c2] at hf
      refine J_aload_n Z.1 0 dX13_countOf_41 rfl rfl ?_
      refine J_iconst Z.1 (v := 4) (by decide) dX13_countOf_42 ?_
      refine J_aload_n Z.1 0 dX13_countOf_43 rfl rfl ?_
      refine J_get (v := .int (hI h this 15)) Z.1 dX13_countOf_44 fl_X13_136 t0 rfl ?_
      replace hf := bd_i hf
      obtain ⟨h3, q4, hf⟩ := hf
      refine J_callV (ci := 11) (as := [.int 4, .int (hI h this 15)]) (rest := []) (sy := []) Z.1 dX13_countOf_47 cw_X13_201 (pX13_fail_ok G (dk - 1) (by omega) q4) rfl rfl t0 (zG Z) rfl (by decide) (zF Z (by omega)) (zO Z (by omega) (by decide)) (zM _) Z.2.1 Z.2.1 rfl rfl ?_
      refine J_lv [0] rfl ?_
      exact pX13_countOf_b50_ok Z hK t0  _ hf
def pX13_countOf (g : MT) (h : CT) (this : Nat) (p1 : Int32) (p2 : Int32) : Option ((Int32) × CT) := tg g this 12 (if (hI h this 12) = 0 then if (hI h this 14) = 2 then pX13_countOf_b19 g this p1 p2  h else bd (pX13_amiss g h this) fun h3 => (pX13_countOf_b19 g this p1 p2  h3) else pX13_countOf_b19 g this p1 p2  h)
set_option maxRecDepth 10000 in
set_option maxHeartbeats 4000000 in
theorem pX13_countOf_ok (G : Gx) (dk : Nat) (hK : 2 ≤ dk) {g : MT} {h h0 : CT} {this : Nat} {p1 : Int32} {p2 : Int32} {r0 : Int32} (hf : pX13_countOf g h this p1 p2 = some (r0, h0)) : Ctr G dk yX13_countOf cX13_countOf 4 (some .int) [va_rf (some this), .int p1, .int p2] g h (some (.int r0)) g h0 := by
  refine Ctr.ofZ (lv := [(0, va_rf (some this)), (1, .int p1), (2, .int p2)]) (by decide +kernel) (by simp [cat_i, cat_l, cat_d, cat_rf]) rfl fun X Z => ?_
  unfold pX13_countOf at hf
  replace hf := tg_i hf
  obtain ⟨t0, hf⟩ := hf
  refine J_aload_n Z.1 0 dX13_countOf_0 rfl rfl ?_
  refine J_get (v := .int (hI h this 12)) Z.1 dX13_countOf_1 fl_X13_195 t0 rfl ?_
  refine J_if_ne Z.1 19 dX13_countOf_4 (by decide) (fun c1 => ?_) (fun c1 => ?_)
  · rw [if_neg c1] at hf
    exact pX13_countOf_b19_ok Z hK t0  _ hf
  · rw [if_pos c1] at hf
    refine J_aload_n Z.1 0 dX13_countOf_7 rfl rfl ?_
    refine J_get (v := .int (hI h this 14)) Z.1 dX13_countOf_8 fl_X13_142 t0 rfl ?_
    refine J_iconst Z.1 (v := 2) (by decide) dX13_countOf_11 ?_
    refine J_icmp_eq Z.1 19 dX13_countOf_12 (by decide) (fun c2 => ?_) (fun c2 => ?_)
    · rw [if_pos c2] at hf
      exact pX13_countOf_b19_ok Z hK t0  _ hf
    · rw [if_neg c2] at hf
      refine J_aload_n Z.1 0 dX13_countOf_15 rfl rfl ?_
      replace hf := bd_i hf
      obtain ⟨h3, q4, hf⟩ := hf
      refine J_callV (ci := 11) (as := []) (rest := []) (sy := []) Z.1 dX13_countOf_16 cw_X13_208 (pX13_amiss_ok G (dk - 1) (by omega) q4) rfl rfl t0 (zG Z) rfl (by decide) (zF Z (by omega)) (zO Z (by omega) (by decide)) (zM _) Z.2.1 Z.2.1 rfl rfl ?_
      exact pX13_countOf_b19_ok Z hK t0  _ hf
theorem dX13_readRow_0 : decode cX13_readRow 0 = .ok (.aload_n 0, 1) := by decide +kernel
theorem dX13_readRow_1 : decode cX13_readRow 1 = .ok (.getfield 195, 3) := by decide +kernel
theorem dX13_readRow_4 : decode cX13_readRow 4 = .ok (.ifCond .le 7, 3) := by decide +kernel
theorem dX13_readRow_7 : decode cX13_readRow 7 = .ok (.iconst 0, 1) := by decide +kernel
theorem dX13_readRow_8 : decode cX13_readRow 8 = .ok (.goto 11, 3) := by decide +kernel
theorem dX13_readRow_11 : decode cX13_readRow 11 = .ok (.aload_n 0, 1) := by decide +kernel
theorem dX13_readRow_12 : decode cX13_readRow 12 = .ok (.bipush 118, 2) := by decide +kernel
theorem dX13_readRow_14 : decode cX13_readRow 14 = .ok (.bipush 6, 2) := by decide +kernel
theorem dX13_readRow_16 : decode cX13_readRow 16 = .ok (.invokevirtual 211, 3) := by decide +kernel
theorem dX13_readRow_19 : decode cX13_readRow 19 = .ok (.istore_n 1, 1) := by decide +kernel
theorem dX13_readRow_20 : decode cX13_readRow 20 = .ok (.aload_n 0, 1) := by decide +kernel
theorem dX13_readRow_21 : decode cX13_readRow 21 = .ok (.iload_n 1, 1) := by decide +kernel
theorem dX13_readRow_22 : decode cX13_readRow 22 = .ok (.ifCond .lt 7, 3) := by decide +kernel
theorem dX13_readRow_25 : decode cX13_readRow 25 = .ok (.iconst 1, 1) := by decide +kernel
theorem dX13_readRow_26 : decode cX13_readRow 26 = .ok (.goto 4, 3) := by decide +kernel
theorem dX13_readRow_29 : decode cX13_readRow 29 = .ok (.iconst 0, 1) := by decide +kernel
theorem dX13_readRow_30 : decode cX13_readRow 30 = .ok (.invokevirtual 214, 3) := by decide +kernel
theorem dX13_readRow_33 : decode cX13_readRow 33 = .ok (.iconst 0, 1) := by decide +kernel
theorem dX13_readRow_34 : decode cX13_readRow 34 = .ok (.iload_n 1, 1) := by decide +kernel
theorem dX13_readRow_35 : decode cX13_readRow 35 = .ok (.invokestatic 178, 3) := by decide +kernel
theorem dX13_readRow_38 : decode cX13_readRow 38 = .ok (.ireturn, 1) := by decide +kernel
def pX13_readRow_b30 (g : MT) (this : Nat) (l1 : Int32) (s0 : Nat) (s1 : Int32) (h : CT) : Option ((Int32) × CT) := tg g s0 12 (bd (pX13_must g h s0 s1) fun h2 => (some ((pJ9_max_7cf53 0 l1), h2)))
set_option maxRecDepth 10000 in
set_option maxHeartbeats 4000000 in
theorem pX13_readRow_b30_ok {X : Cx} {G : Gx} {dk : Nat} {g : MT} {r0 : Int32} {h0 : CT} {this : Nat} (Z : Zx X G cX13_readRow RX13 2 dk (some .int) (some (.int r0)) g h0) (hK : 3 ≤ dk) (t0 : gT g this = 12) (l1 : Int32) (s0 : Nat) (s1 : Int32) (h : CT) (hf : pX13_readRow_b30 g this l1 s0 s1 h = some (r0, h0)) : J X g h 30 [(1, .int l1)] [.int s1, va_rf (some s0)] := by
  unfold pX13_readRow_b30 at hf
  replace hf := tg_i hf
  obtain ⟨t1, hf⟩ := hf
  replace hf := bd_i hf
  obtain ⟨h2, q3, hf⟩ := hf
  refine J_callV (ci := 11) (as := [.int s1]) (rest := []) (sy := []) Z.1 dX13_readRow_30 cw_X13_214 (pX13_must_ok G (dk - 1) (by omega) q3) rfl rfl t1 (zG Z) rfl (by decide) (zF Z (by omega)) (zO Z (by omega) (by decide)) (zM _) Z.2.1 Z.2.1 rfl rfl ?_
  refine J_iconst Z.1 (v := 0) (by decide) dX13_readRow_33 ?_
  refine J_iload_n Z.1 0 dX13_readRow_34 rfl rfl ?_
  refine J_callS (as := [.int 0, .int l1]) (rest := []) (sy := [.int (pJ9_max_7cf53 0 l1)]) Z.1 dX13_readRow_35 cw_X13_178 (pJ9_max_7cf53_ok G (dk - 1) (by omega) g h2 0 l1) (zG Z) rfl (by decide) (zF Z (by omega)) (zO Z (by omega) (by decide)) (zM _) Z.2.1 Z.2.1 rfl rfl ?_
  cases hf
  exact J_iret Z.1 Z.2.2.2.2.2 dX13_readRow_38
def pX13_readRow_b19 (g : MT) (this : Nat) (s0 : Int32) (h : CT) : Option ((Int32) × CT) := if s0 < 0 then pX13_readRow_b30 g this  s0 this 0 h else pX13_readRow_b30 g this  s0 this 1 h
set_option maxRecDepth 10000 in
set_option maxHeartbeats 4000000 in
theorem pX13_readRow_b19_ok {X : Cx} {G : Gx} {dk : Nat} {g : MT} {r0 : Int32} {h0 : CT} {this : Nat} (Z : Zx X G cX13_readRow RX13 2 dk (some .int) (some (.int r0)) g h0) (hK : 3 ≤ dk) (t0 : gT g this = 12) (s0 : Int32) (h : CT) (hf : pX13_readRow_b19 g this s0 h = some (r0, h0)) : J X g h 19 [(0, va_rf (some this))] [.int s0] := by
  unfold pX13_readRow_b19 at hf
  refine J_istore_n Z.1 (lv2 := [(1, .int s0), (0, va_rf (some this))]) dX13_readRow_19 rfl (zL Z (by decide)) rfl ?_
  refine J_aload_n Z.1 1 dX13_readRow_20 rfl rfl ?_
  refine J_iload_n Z.1 0 dX13_readRow_21 rfl rfl ?_
  refine J_if_lt Z.1 29 dX13_readRow_22 (by decide) (fun c1 => ?_) (fun c1 => ?_)
  · rw [if_pos c1] at hf
    refine J_iconst Z.1 (v := 0) (by decide) dX13_readRow_29 ?_
    refine J_lv [0] rfl ?_
    exact pX13_readRow_b30_ok Z hK t0  _ _ _ _ hf
  · rw [if_neg c1] at hf
    refine J_iconst Z.1 (v := 1) (by decide) dX13_readRow_25 ?_
    refine J_goto Z.1 30 dX13_readRow_26 (by decide) ?_
    refine J_lv [0] rfl ?_
    exact pX13_readRow_b30_ok Z hK t0  _ _ _ _ hf
def pX13_readRow (g : MT) (h : CT) (this : Nat) : Option ((Int32) × CT) := tg g this 12 (if (hI h this 12) ≤ 0 then bd (pX13_lettered g h this 118 6) fun x2 => (pX13_readRow_b19 g this  x2 h) else pX13_readRow_b19 g this  0 h)
set_option maxRecDepth 10000 in
set_option maxHeartbeats 4000000 in
theorem pX13_readRow_ok (G : Gx) (dk : Nat) (hK : 3 ≤ dk) {g : MT} {h h0 : CT} {this : Nat} {r0 : Int32} (hf : pX13_readRow g h this = some (r0, h0)) : Ctr G dk yX13_readRow cX13_readRow 2 (some .int) [va_rf (some this)] g h (some (.int r0)) g h0 := by
  refine Ctr.ofZ (lv := [(0, va_rf (some this))]) (by decide +kernel) (by simp [cat_i, cat_l, cat_d, cat_rf]) rfl fun X Z => ?_
  unfold pX13_readRow at hf
  replace hf := tg_i hf
  obtain ⟨t0, hf⟩ := hf
  refine J_aload_n Z.1 0 dX13_readRow_0 rfl rfl ?_
  refine J_get (v := .int (hI h this 12)) Z.1 dX13_readRow_1 fl_X13_195 t0 rfl ?_
  refine J_if_le Z.1 11 dX13_readRow_4 (by decide) (fun c1 => ?_) (fun c1 => ?_)
  · rw [if_pos c1] at hf
    refine J_aload_n Z.1 0 dX13_readRow_11 rfl rfl ?_
    refine J_bipush Z.1 (v := 118) (by decide) dX13_readRow_12 ?_
    refine J_bipush Z.1 (v := 6) (by decide) dX13_readRow_14 ?_
    replace hf := bd_i hf
    obtain ⟨x2, q3, hf⟩ := hf
    refine J_callV (ci := 11) (as := [.int 118, .int 6]) (rest := []) (sy := [.int x2]) Z.1 dX13_readRow_16 cw_X13_211 (pX13_lettered_ok G (dk - 1) (by omega) q3) rfl rfl t0 (zG Z) rfl (by decide) (zF Z (by omega)) (zO Z (by omega) (by decide)) (zM _) Z.2.1 Z.2.1 rfl rfl ?_
    exact pX13_readRow_b19_ok Z hK t0  _ _ hf
  · rw [if_neg c1] at hf
    refine J_iconst Z.1 (v := 0) (by decide) dX13_readRow_7 ?_
    refine J_goto Z.1 19 dX13_readRow_8 (by decide) ?_
    exact pX13_readRow_b19_ok Z hK t0  _ _ hf
theorem dX13_readScalar_0 : decode cX13_readScalar 0 = .ok (.aload_n 0, 1) := by decide +kernel
theorem dX13_readScalar_1 : decode cX13_readScalar 1 = .ok (.getfield 195, 3) := by decide +kernel
theorem dX13_readScalar_4 : decode cX13_readScalar 4 = .ok (.ifCond .le 7, 3) := by decide +kernel
theorem dX13_readScalar_7 : decode cX13_readScalar 7 = .ok (.iconst 0, 1) := by decide +kernel
theorem dX13_readScalar_8 : decode cX13_readScalar 8 = .ok (.goto 10, 3) := by decide +kernel
theorem dX13_readScalar_11 : decode cX13_readScalar 11 = .ok (.aload_n 0, 1) := by decide +kernel
theorem dX13_readScalar_12 : decode cX13_readScalar 12 = .ok (.bipush 115, 2) := by decide +kernel
theorem dX13_readScalar_14 : decode cX13_readScalar 14 = .ok (.iconst 4, 1) := by decide +kernel
theorem dX13_readScalar_15 : decode cX13_readScalar 15 = .ok (.invokevirtual 211, 3) := by decide +kernel
theorem dX13_readScalar_18 : decode cX13_readScalar 18 = .ok (.istore_n 1, 1) := by decide +kernel
theorem dX13_readScalar_19 : decode cX13_readScalar 19 = .ok (.aload_n 0, 1) := by decide +kernel
theorem dX13_readScalar_20 : decode cX13_readScalar 20 = .ok (.iload_n 1, 1) := by decide +kernel
theorem dX13_readScalar_21 : decode cX13_readScalar 21 = .ok (.ifCond .lt 7, 3) := by decide +kernel
theorem dX13_readScalar_24 : decode cX13_readScalar 24 = .ok (.iconst 1, 1) := by decide +kernel
theorem dX13_readScalar_25 : decode cX13_readScalar 25 = .ok (.goto 4, 3) := by decide +kernel
theorem dX13_readScalar_28 : decode cX13_readScalar 28 = .ok (.iconst 0, 1) := by decide +kernel
theorem dX13_readScalar_29 : decode cX13_readScalar 29 = .ok (.invokevirtual 214, 3) := by decide +kernel
theorem dX13_readScalar_32 : decode cX13_readScalar 32 = .ok (.iconst 0, 1) := by decide +kernel
theorem dX13_readScalar_33 : decode cX13_readScalar 33 = .ok (.iload_n 1, 1) := by decide +kernel
theorem dX13_readScalar_34 : decode cX13_readScalar 34 = .ok (.invokestatic 178, 3) := by decide +kernel
theorem dX13_readScalar_37 : decode cX13_readScalar 37 = .ok (.ireturn, 1) := by decide +kernel
def pX13_readScalar_b29 (g : MT) (this : Nat) (l1 : Int32) (s0 : Nat) (s1 : Int32) (h : CT) : Option ((Int32) × CT) := tg g s0 12 (bd (pX13_must g h s0 s1) fun h2 => (some ((pJ9_max_7cf53 0 l1), h2)))
set_option maxRecDepth 10000 in
set_option maxHeartbeats 4000000 in
theorem pX13_readScalar_b29_ok {X : Cx} {G : Gx} {dk : Nat} {g : MT} {r0 : Int32} {h0 : CT} {this : Nat} (Z : Zx X G cX13_readScalar RX13 2 dk (some .int) (some (.int r0)) g h0) (hK : 3 ≤ dk) (t0 : gT g this = 12) (l1 : Int32) (s0 : Nat) (s1 : Int32) (h : CT) (hf : pX13_readScalar_b29 g this l1 s0 s1 h = some (r0, h0)) : J X g h 29 [(1, .int l1)] [.int s1, va_rf (some s0)] := by
  unfold pX13_readScalar_b29 at hf
  replace hf := tg_i hf
  obtain ⟨t1, hf⟩ := hf
  replace hf := bd_i hf
  obtain ⟨h2, q3, hf⟩ := hf
  refine J_callV (ci := 11) (as := [.int s1]) (rest := []) (sy := []) Z.1 dX13_readScalar_29 cw_X13_214 (pX13_must_ok G (dk - 1) (by omega) q3) rfl rfl t1 (zG Z) rfl (by decide) (zF Z (by omega)) (zO Z (by omega) (by decide)) (zM _) Z.2.1 Z.2.1 rfl rfl ?_
  refine J_iconst Z.1 (v := 0) (by decide) dX13_readScalar_32 ?_
  refine J_iload_n Z.1 0 dX13_readScalar_33 rfl rfl ?_
  refine J_callS (as := [.int 0, .int l1]) (rest := []) (sy := [.int (pJ9_max_7cf53 0 l1)]) Z.1 dX13_readScalar_34 cw_X13_178 (pJ9_max_7cf53_ok G (dk - 1) (by omega) g h2 0 l1) (zG Z) rfl (by decide) (zF Z (by omega)) (zO Z (by omega) (by decide)) (zM _) Z.2.1 Z.2.1 rfl rfl ?_
  cases hf
  exact J_iret Z.1 Z.2.2.2.2.2 dX13_readScalar_37
def pX13_readScalar_b18 (g : MT) (this : Nat) (s0 : Int32) (h : CT) : Option ((Int32) × CT) := if s0 < 0 then pX13_readScalar_b29 g this  s0 this 0 h else pX13_readScalar_b29 g this  s0 this 1 h
set_option maxRecDepth 10000 in
set_option maxHeartbeats 4000000 in
theorem pX13_readScalar_b18_ok {X : Cx} {G : Gx} {dk : Nat} {g : MT} {r0 : Int32} {h0 : CT} {this : Nat} (Z : Zx X G cX13_readScalar RX13 2 dk (some .int) (some (.int r0)) g h0) (hK : 3 ≤ dk) (t0 : gT g this = 12) (s0 : Int32) (h : CT) (hf : pX13_readScalar_b18 g this s0 h = some (r0, h0)) : J X g h 18 [(0, va_rf (some this))] [.int s0] := by
  unfold pX13_readScalar_b18 at hf
  refine J_istore_n Z.1 (lv2 := [(1, .int s0), (0, va_rf (some this))]) dX13_readScalar_18 rfl (zL Z (by decide)) rfl ?_
  refine J_aload_n Z.1 1 dX13_readScalar_19 rfl rfl ?_
  refine J_iload_n Z.1 0 dX13_readScalar_20 rfl rfl ?_
  refine J_if_lt Z.1 28 dX13_readScalar_21 (by decide) (fun c1 => ?_) (fun c1 => ?_)
  · rw [if_pos c1] at hf
    refine J_iconst Z.1 (v := 0) (by decide) dX13_readScalar_28 ?_
    refine J_lv [0] rfl ?_
    exact pX13_readScalar_b29_ok Z hK t0  _ _ _ _ hf
  · rw [if_neg c1] at hf
    refine J_iconst Z.1 (v := 1) (by decide) dX13_readScalar_24 ?_
    refine J_goto Z.1 29 dX13_readScalar_25 (by decide) ?_
    refine J_lv [0] rfl ?_
    exact pX13_readScalar_b29_ok Z hK t0  _ _ _ _ hf
def pX13_readScalar (g : MT) (h : CT) (this : Nat) : Option ((Int32) × CT) := tg g this 12 (if (hI h this 12) ≤ 0 then bd (pX13_lettered g h this 115 4) fun x2 => (pX13_readScalar_b18 g this  x2 h) else pX13_readScalar_b18 g this  0 h)
set_option maxRecDepth 10000 in
set_option maxHeartbeats 4000000 in
theorem pX13_readScalar_ok (G : Gx) (dk : Nat) (hK : 3 ≤ dk) {g : MT} {h h0 : CT} {this : Nat} {r0 : Int32} (hf : pX13_readScalar g h this = some (r0, h0)) : Ctr G dk yX13_readScalar cX13_readScalar 2 (some .int) [va_rf (some this)] g h (some (.int r0)) g h0 := by
  refine Ctr.ofZ (lv := [(0, va_rf (some this))]) (by decide +kernel) (by simp [cat_i, cat_l, cat_d, cat_rf]) rfl fun X Z => ?_
  unfold pX13_readScalar at hf
  replace hf := tg_i hf
  obtain ⟨t0, hf⟩ := hf
  refine J_aload_n Z.1 0 dX13_readScalar_0 rfl rfl ?_
  refine J_get (v := .int (hI h this 12)) Z.1 dX13_readScalar_1 fl_X13_195 t0 rfl ?_
  refine J_if_le Z.1 11 dX13_readScalar_4 (by decide) (fun c1 => ?_) (fun c1 => ?_)
  · rw [if_pos c1] at hf
    refine J_aload_n Z.1 0 dX13_readScalar_11 rfl rfl ?_
    refine J_bipush Z.1 (v := 115) (by decide) dX13_readScalar_12 ?_
    refine J_iconst Z.1 (v := 4) (by decide) dX13_readScalar_14 ?_
    replace hf := bd_i hf
    obtain ⟨x2, q3, hf⟩ := hf
    refine J_callV (ci := 11) (as := [.int 115, .int 4]) (rest := []) (sy := [.int x2]) Z.1 dX13_readScalar_15 cw_X13_211 (pX13_lettered_ok G (dk - 1) (by omega) q3) rfl rfl t0 (zG Z) rfl (by decide) (zF Z (by omega)) (zO Z (by omega) (by decide)) (zM _) Z.2.1 Z.2.1 rfl rfl ?_
    exact pX13_readScalar_b18_ok Z hK t0  _ _ hf
  · rw [if_neg c1] at hf
    refine J_iconst Z.1 (v := 0) (by decide) dX13_readScalar_7 ?_
    refine J_goto Z.1 18 dX13_readScalar_8 (by decide) ?_
    exact pX13_readScalar_b18_ok Z hK t0  _ _ hf
theorem dX13_readAt_0 : decode cX13_readAt 0 = .ok (.aload_n 0, 1) := by decide +kernel
theorem dX13_readAt_1 : decode cX13_readAt 1 = .ok (.aload_n 0, 1) := by decide +kernel
theorem dX13_readAt_2 : decode cX13_readAt 2 = .ok (.invokevirtual 218, 3) := by decide +kernel
theorem dX13_readAt_5 : decode cX13_readAt 5 = .ok (.invokevirtual 214, 3) := by decide +kernel
theorem dX13_readAt_8 : decode cX13_readAt 8 = .ok (.aload_n 0, 1) := by decide +kernel
theorem dX13_readAt_9 : decode cX13_readAt 9 = .ok (.iconst 0, 1) := by decide +kernel
theorem dX13_readAt_10 : decode cX13_readAt 10 = .ok (.bipush 63, 2) := by decide +kernel
theorem dX13_readAt_12 : decode cX13_readAt 12 = .ok (.invokevirtual 222, 3) := by decide +kernel
theorem dX13_readAt_15 : decode cX13_readAt 15 = .ok (.ireturn, 1) := by decide +kernel
def pX13_readAt (g : MT) (h : CT) (this : Nat) : Option ((Int32) × CT) := tg g this 12 (bd (pX13_isAt g h this) fun x1 => (bd (pX13_must g h this x1) fun h3 => (bd2 (pX13_countOf g h3 this 0 63) fun x7 h5 => (some (x7, h5)))))
set_option maxRecDepth 10000 in
set_option maxHeartbeats 4000000 in
theorem pX13_readAt_ok (G : Gx) (dk : Nat) (hK : 3 ≤ dk) {g : MT} {h h0 : CT} {this : Nat} {r0 : Int32} (hf : pX13_readAt g h this = some (r0, h0)) : Ctr G dk yX13_readAt cX13_readAt 1 (some .int) [va_rf (some this)] g h (some (.int r0)) g h0 := by
  refine Ctr.ofZ (lv := [(0, va_rf (some this))]) (by decide +kernel) (by simp [cat_i, cat_l, cat_d, cat_rf]) rfl fun X Z => ?_
  unfold pX13_readAt at hf
  replace hf := tg_i hf
  obtain ⟨t0, hf⟩ := hf
  refine J_aload_n Z.1 0 dX13_readAt_0 rfl rfl ?_
  refine J_aload_n Z.1 0 dX13_readAt_1 rfl rfl ?_
  replace hf := bd_i hf
  obtain ⟨x1, q2, hf⟩ := hf
  refine J_callV (ci := 11) (as := []) (rest := [va_rf (some this)]) (sy := [.int x1, va_rf (some this)]) Z.1 dX13_readAt_2 cw_X13_218 (pX13_isAt_ok G (dk - 1) (by omega) q2) rfl rfl t0 (zG Z) rfl (by simp [cat_i, cat_l, cat_d, cat_rf]) (zF Z (by omega)) (zO Z (by omega) (by decide)) (zM _) Z.2.1 Z.2.1 rfl rfl ?_
  replace hf := bd_i hf
  obtain ⟨h3, q4, hf⟩ := hf
  refine J_callV (ci := 11) (as := [.int x1]) (rest := []) (sy := []) Z.1 dX13_readAt_5 cw_X13_214 (pX13_must_ok G (dk - 1) (by omega) q4) rfl rfl t0 (zG Z) rfl (by decide) (zF Z (by omega)) (zO Z (by omega) (by decide)) (zM _) Z.2.1 Z.2.1 rfl rfl ?_
  refine J_aload_n Z.1 0 dX13_readAt_8 rfl rfl ?_
  refine J_iconst Z.1 (v := 0) (by decide) dX13_readAt_9 ?_
  refine J_bipush Z.1 (v := 63) (by decide) dX13_readAt_10 ?_
  replace hf := bd2_i hf
  obtain ⟨x7, h5, q6, hf⟩ := hf
  refine J_callV (ci := 11) (as := [.int 0, .int 63]) (rest := []) (sy := [.int x7]) Z.1 dX13_readAt_12 cw_X13_222 (pX13_countOf_ok G (dk - 1) (by omega) q6) rfl rfl t0 (zG Z) rfl (by decide) (zF Z (by omega)) (zO Z (by omega) (by decide)) (zM _) Z.2.1 Z.2.1 rfl rfl ?_
  cases hf
  exact J_iret Z.1 Z.2.2.2.2.2 dX13_readAt_15
theorem dX13_lay_0 : decode cX13_lay 0 = .ok (.iconst 3, 1) := by decide +kernel
theorem dX13_lay_1 : decode cX13_lay 1 = .ok (.istore_n 2, 1) := by decide +kernel
theorem dX13_lay_2 : decode cX13_lay 2 = .ok (.iload_n 2, 1) := by decide +kernel
theorem dX13_lay_3 : decode cX13_lay 3 = .ok (.ifCond .lt 35, 3) := by decide +kernel
theorem dX13_lay_6 : decode cX13_lay 6 = .ok (.aload_n 0, 1) := by decide +kernel
theorem dX13_lay_7 : decode cX13_lay 7 = .ok (.getfield 20, 3) := by decide +kernel
theorem dX13_lay_10 : decode cX13_lay 10 = .ok (.aload_n 0, 1) := by decide +kernel
theorem dX13_lay_11 : decode cX13_lay 11 = .ok (.getfield 225, 3) := by decide +kernel
theorem dX13_lay_14 : decode cX13_lay 14 = .ok (.iload_n 1, 1) := by decide +kernel
theorem dX13_lay_15 : decode cX13_lay 15 = .ok (.bipush 8, 2) := by decide +kernel
theorem dX13_lay_17 : decode cX13_lay 17 = .ok (.iload_n 2, 1) := by decide +kernel
theorem dX13_lay_18 : decode cX13_lay 18 = .ok (.imul, 1) := by decide +kernel
theorem dX13_lay_19 : decode cX13_lay 19 = .ok (.ishr, 1) := by decide +kernel
theorem dX13_lay_20 : decode cX13_lay 20 = .ok (.i2b, 1) := by decide +kernel
theorem dX13_lay_21 : decode cX13_lay 21 = .ok (.bastore, 1) := by decide +kernel
theorem dX13_lay_22 : decode cX13_lay 22 = .ok (.aload_n 0, 1) := by decide +kernel
theorem dX13_lay_23 : decode cX13_lay 23 = .ok (.dup, 1) := by decide +kernel
theorem dX13_lay_24 : decode cX13_lay 24 = .ok (.getfield 225, 3) := by decide +kernel
theorem dX13_lay_27 : decode cX13_lay 27 = .ok (.iconst 1, 1) := by decide +kernel
theorem dX13_lay_28 : decode cX13_lay 28 = .ok (.iadd, 1) := by decide +kernel
theorem dX13_lay_29 : decode cX13_lay 29 = .ok (.putfield 225, 3) := by decide +kernel
theorem dX13_lay_32 : decode cX13_lay 32 = .ok (.iinc 2 (-1), 3) := by decide +kernel
theorem dX13_lay_35 : decode cX13_lay 35 = .ok (.goto (-33), 3) := by decide +kernel
theorem dX13_lay_38 : decode cX13_lay 38 = .ok (.return_, 1) := by decide +kernel
def pX13_lay_b2 (g : MT) (this : Nat) (p1 : Int32) (k2 : Int32 → CT → Option CT) (l2 : Int32) (h : CT) : Option CT := if l2 < 0 then some h else lt (hR h this 7) fun r2 => (nn r2 fun a2 => (tg g a2 23 (ix (gL g a2) (hI h this 8) (lt (sI h a2 (Int32.toNatClampNeg (hI h this 8)) (vp_nar .byte (Int8.toInt32 (Int32.toInt8 (p1 >>> ((8 * l2) &&& 31)))))) fun h5 => (lt (sI h5 this 8 ((hI h5 this 8) + 1)) fun h6 => (lt (l2 + (-1)) fun x7 => (k2 x7 h6)))))))
set_option maxRecDepth 10000 in
set_option maxHeartbeats 4000000 in
theorem pX13_lay_b2_ok {X : Cx} {G : Gx} {dk : Nat} {g : MT} {h0 : CT} {this : Nat} {p1 : Int32} {k2 : Int32 → CT → Option CT} (Z : Zx X G cX13_lay RX13 3 dk none none g h0) (hK : 0 ≤ dk) (t0 : gT g this = 12) (hk2 : ∀ (l2 : Int32) (h : CT), k2 l2 h = some h0 → J X g h 2 [(0, va_rf (some this)), (1, .int p1), (2, .int l2)] []) (l2 : Int32) (h : CT) (hf : pX13_lay_b2 g this p1 k2 l2 h = some h0) : J X g h 2 [(0, va_rf (some this)), (1, .int p1), (2, .int l2)] [] := by
  unfold pX13_lay_b2 at hf
  refine J_iload_n Z.1 2 dX13_lay_2 rfl rfl ?_
  refine J_if_lt Z.1 38 dX13_lay_3 (by decide) (fun c1 => ?_) (fun c1 => ?_)
  · rw [if_pos c1] at hf
    cases hf
    exact J_vret Z.1 Z.2.2.2.2.2 dX13_lay_38
  · rw [if_neg c1] at hf
    refine J_aload_n Z.1 0 dX13_lay_6 rfl rfl ?_
    refine J_get (v := va_rf (hR h this 7)) Z.1 dX13_lay_7 fl_X13_20 t0 rfl ?_
    refine J_tr (fun r2 er2 => ?_)
    replace hf := lt_i hf r2 er2
    refine J_aload_n Z.1 0 dX13_lay_10 rfl rfl ?_
    refine J_get (v := .int (hI h this 8)) Z.1 dX13_lay_11 fl_X13_225 t0 rfl ?_
    refine J_iload_n Z.1 1 dX13_lay_14 rfl rfl ?_
    refine J_bipush Z.1 (v := 8) (by decide) dX13_lay_15 ?_
    refine J_iload_n Z.1 2 dX13_lay_17 rfl rfl ?_
    refine J_imul Z.1 dX13_lay_18 ?_
    refine J_ishr Z.1 dX13_lay_19 ?_
    refine J_i2b Z.1 dX13_lay_20 ?_
    replace hf := nn_i hf
    obtain ⟨a2, rfl, hf⟩ := hf
    replace hf := tg_i hf
    obtain ⟨t3, hf⟩ := hf
    replace hf := ix_i hf
    obtain ⟨i4, hf⟩ := hf
    refine J_bastore Z.1 dX13_lay_21 t3 i4 ?_
    refine J_th (fun h5 eh5 => ?_)
    replace hf := lt_i hf h5 eh5
    refine J_aload_n Z.1 0 dX13_lay_22 rfl rfl ?_
    refine J_dup Z.1 dX13_lay_23 rfl ?_
    refine J_get (v := .int (hI h5 this 8)) Z.1 dX13_lay_24 fl_X13_225 t0 rfl ?_
    refine J_iconst Z.1 (v := 1) (by decide) dX13_lay_27 ?_
    refine J_iadd Z.1 dX13_lay_28 ?_
    refine J_putI Z.1 dX13_lay_29 fl_X13_225 (fun q => by cases q) t0 rfl rfl (congrArg Value.int (hI_s _ _ _ _)) ?_
    refine J_th (fun h6 eh6 => ?_)
    replace hf := lt_i hf h6 eh6
    refine J_iinc Z.1 (v := (-1)) (lv2 := [(2, .int (l2 + (-1))), (0, va_rf (some this)), (1, .int p1)]) 2 dX13_lay_32 rfl (by decide) (zL Z (by decide)) rfl ?_
    obtain ⟨x7, ex7⟩ : ∃ z, z = (l2 + (-1)) := ⟨_, rfl⟩
    replace hf := lt_i hf x7 ex7
    rw [← ex7]
    refine J_goto Z.1 2 dX13_lay_35 (by decide) ?_
    refine J_lv [1, 2, 0] rfl ?_
    exact hk2 _ _ hf
def pX13_lay_l2 (g : MT) (this : Nat) (p1 : Int32) : Nat → Int32 → CT → Option CT
  | 0, _, _ => none
  | n + 1, l2, h => pX13_lay_b2 g this p1 (pX13_lay_l2 g this p1 n) l2 h
theorem pX13_lay_l2_ok {X : Cx} {G : Gx} {dk : Nat} {g : MT} {h0 : CT} {this : Nat} {p1 : Int32} (Z : Zx X G cX13_lay RX13 3 dk none none g h0) (hK : 0 ≤ dk) (t0 : gT g this = 12) : ∀ (n : Nat) (l2 : Int32) (h : CT), pX13_lay_l2 g this p1 n l2 h = some h0 → J X g h 2 [(0, va_rf (some this)), (1, .int p1), (2, .int l2)] [] := by
  intro n
  induction n with
  | zero => intro l2 h hf; cases hf
  | succ n ih => intro l2 h hf; exact pX13_lay_b2_ok Z hK t0 ih l2 h hf
def pX13_lay (g : MT) (h : CT) (this : Nat) (p1 : Int32) : Option CT := tg g this 12 (pX13_lay_l2 g this p1  FUEL 3 h)
set_option maxRecDepth 10000 in
set_option maxHeartbeats 4000000 in
theorem pX13_lay_ok (G : Gx) (dk : Nat) (hK : 0 ≤ dk) {g : MT} {h h0 : CT} {this : Nat} {p1 : Int32} (hf : pX13_lay g h this p1 = some h0) : Ctr G dk yX13_lay cX13_lay 3 none [va_rf (some this), .int p1] g h none g h0 := by
  refine Ctr.ofZ (lv := [(0, va_rf (some this)), (1, .int p1)]) (by decide +kernel) (by simp [cat_i, cat_l, cat_d, cat_rf]) rfl fun X Z => ?_
  unfold pX13_lay at hf
  replace hf := tg_i hf
  obtain ⟨t0, hf⟩ := hf
  refine J_iconst Z.1 (v := 3) (by decide) dX13_lay_0 ?_
  refine J_istore_n Z.1 (lv2 := [(2, .int 3), (0, va_rf (some this)), (1, .int p1)]) dX13_lay_1 rfl (zL Z (by decide)) rfl ?_
  refine J_lv [1, 2, 0] rfl ?_
  exact pX13_lay_l2_ok Z hK t0  FUEL _ _ hf
theorem dX13_fault_0 : decode cX13_fault 0 = .ok (.aload_n 0, 1) := by decide +kernel
theorem dX13_fault_1 : decode cX13_fault 1 = .ok (.iconst 0, 1) := by decide +kernel
theorem dX13_fault_2 : decode cX13_fault 2 = .ok (.putfield 71, 3) := by decide +kernel
theorem dX13_fault_5 : decode cX13_fault 5 = .ok (.iload_n 1, 1) := by decide +kernel
theorem dX13_fault_6 : decode cX13_fault 6 = .ok (.ifCond .ne 10, 3) := by decide +kernel
theorem dX13_fault_9 : decode cX13_fault 9 = .ok (.aload_n 0, 1) := by decide +kernel
theorem dX13_fault_10 : decode cX13_fault 10 = .ok (.getfield 24, 3) := by decide +kernel
theorem dX13_fault_13 : decode cX13_fault 13 = .ok (.goto 16, 3) := by decide +kernel
theorem dX13_fault_16 : decode cX13_fault 16 = .ok (.iload_n 1, 1) := by decide +kernel
theorem dX13_fault_17 : decode cX13_fault 17 = .ok (.iconst 1, 1) := by decide +kernel
theorem dX13_fault_18 : decode cX13_fault 18 = .ok (.if_icmp .ne 10, 3) := by decide +kernel
theorem dX13_fault_21 : decode cX13_fault 21 = .ok (.aload_n 0, 1) := by decide +kernel
theorem dX13_fault_22 : decode cX13_fault 22 = .ok (.getfield 28, 3) := by decide +kernel
theorem dX13_fault_25 : decode cX13_fault 25 = .ok (.goto 4, 3) := by decide +kernel
theorem dX13_fault_28 : decode cX13_fault 28 = .ok (.iconst (-1), 1) := by decide +kernel
theorem dX13_fault_29 : decode cX13_fault 29 = .ok (.ireturn, 1) := by decide +kernel
def pX13_fault (g : MT) (h : CT) (this : Nat) (p1 : Int32) : Option ((Int32) × CT) := tg g this 12 (lt (sI h this 1 0) fun h1 => (if p1 = 0 then some ((hI h1 this 10), h1) else if p1 = 1 then some ((hI h1 this 11), h1) else some ((-1), h1)))
set_option maxRecDepth 10000 in
set_option maxHeartbeats 4000000 in
theorem pX13_fault_ok (G : Gx) (dk : Nat) (hK : 0 ≤ dk) {g : MT} {h h0 : CT} {this : Nat} {p1 : Int32} {r0 : Int32} (hf : pX13_fault g h this p1 = some (r0, h0)) : Ctr G dk yX13_fault cX13_fault 2 (some .int) [va_rf (some this), .int p1] g h (some (.int r0)) g h0 := by
  refine Ctr.ofZ (lv := [(0, va_rf (some this)), (1, .int p1)]) (by decide +kernel) (by simp [cat_i, cat_l, cat_d, cat_rf]) rfl fun X Z => ?_
  unfold pX13_fault at hf
  replace hf := tg_i hf
  obtain ⟨t0, hf⟩ := hf
  refine J_aload_n Z.1 0 dX13_fault_0 rfl rfl ?_
  refine J_iconst Z.1 (v := 0) (by decide) dX13_fault_1 ?_
  refine J_putI Z.1 dX13_fault_2 fl_X13_71 (fun q => by cases q) t0 rfl rfl (congrArg Value.int (hI_s _ _ _ _)) ?_
  refine J_th (fun h1 eh1 => ?_)
  replace hf := lt_i hf h1 eh1
  refine J_iload_n Z.1 1 dX13_fault_5 rfl rfl ?_
  refine J_if_ne Z.1 16 dX13_fault_6 (by decide) (fun c2 => ?_) (fun c2 => ?_)
  · rw [if_neg c2] at hf
    refine J_iload_n Z.1 1 dX13_fault_16 rfl rfl ?_
    refine J_iconst Z.1 (v := 1) (by decide) dX13_fault_17 ?_
    refine J_icmp_ne Z.1 28 dX13_fault_18 (by decide) (fun c3 => ?_) (fun c3 => ?_)
    · rw [if_neg c3] at hf
      refine J_iconst Z.1 (v := (-1)) (by decide) dX13_fault_28 ?_
      cases hf
      exact J_iret Z.1 Z.2.2.2.2.2 dX13_fault_29
    · rw [if_pos c3] at hf
      refine J_aload_n Z.1 0 dX13_fault_21 rfl rfl ?_
      refine J_get (v := .int (hI h1 this 11)) Z.1 dX13_fault_22 fl_X13_28 t0 rfl ?_
      refine J_goto Z.1 29 dX13_fault_25 (by decide) ?_
      cases hf
      exact J_iret Z.1 Z.2.2.2.2.2 dX13_fault_29
  · rw [if_pos c2] at hf
    refine J_aload_n Z.1 0 dX13_fault_9 rfl rfl ?_
    refine J_get (v := .int (hI h1 this 10)) Z.1 dX13_fault_10 fl_X13_24 t0 rfl ?_
    refine J_goto Z.1 29 dX13_fault_13 (by decide) ?_
    cases hf
    exact J_iret Z.1 Z.2.2.2.2.2 dX13_fault_29
theorem dX13_readMemory_0 : decode cX13_readMemory 0 = .ok (.aload_n 0, 1) := by decide +kernel
theorem dX13_readMemory_1 : decode cX13_readMemory 1 = .ok (.getfield 31, 3) := by decide +kernel
theorem dX13_readMemory_4 : decode cX13_readMemory 4 = .ok (.iload_n 1, 1) := by decide +kernel
theorem dX13_readMemory_5 : decode cX13_readMemory 5 = .ok (.iconst 1, 1) := by decide +kernel
theorem dX13_readMemory_6 : decode cX13_readMemory 6 = .ok (.iadd, 1) := by decide +kernel
theorem dX13_readMemory_7 : decode cX13_readMemory 7 = .ok (.aload_n 0, 1) := by decide +kernel
theorem dX13_readMemory_8 : decode cX13_readMemory 8 = .ok (.invokevirtual 232, 3) := by decide +kernel
theorem dX13_readMemory_11 : decode cX13_readMemory 11 = .ok (.iastore, 1) := by decide +kernel
theorem dX13_readMemory_12 : decode cX13_readMemory 12 = .ok (.aload_n 0, 1) := by decide +kernel
theorem dX13_readMemory_13 : decode cX13_readMemory 13 = .ok (.getfield 31, 3) := by decide +kernel
theorem dX13_readMemory_16 : decode cX13_readMemory 16 = .ok (.iload_n 1, 1) := by decide +kernel
theorem dX13_readMemory_17 : decode cX13_readMemory 17 = .ok (.iconst 4, 1) := by decide +kernel
theorem dX13_readMemory_18 : decode cX13_readMemory 18 = .ok (.iadd, 1) := by decide +kernel
theorem dX13_readMemory_19 : decode cX13_readMemory 19 = .ok (.aload_n 0, 1) := by decide +kernel
theorem dX13_readMemory_20 : decode cX13_readMemory 20 = .ok (.invokevirtual 235, 3) := by decide +kernel
theorem dX13_readMemory_23 : decode cX13_readMemory 23 = .ok (.iastore, 1) := by decide +kernel
theorem dX13_readMemory_24 : decode cX13_readMemory 24 = .ok (.iload_n 2, 1) := by decide +kernel
theorem dX13_readMemory_25 : decode cX13_readMemory 25 = .ok (.iconst 5, 1) := by decide +kernel
theorem dX13_readMemory_26 : decode cX13_readMemory 26 = .ok (.if_icmp .eq 9, 3) := by decide +kernel
theorem dX13_readMemory_29 : decode cX13_readMemory 29 = .ok (.iload_n 2, 1) := by decide +kernel
theorem dX13_readMemory_30 : decode cX13_readMemory 30 = .ok (.bipush 6, 2) := by decide +kernel
theorem dX13_readMemory_32 : decode cX13_readMemory 32 = .ok (.if_icmp .ne 24, 3) := by decide +kernel
theorem dX13_readMemory_35 : decode cX13_readMemory 35 = .ok (.aload_n 0, 1) := by decide +kernel
theorem dX13_readMemory_36 : decode cX13_readMemory 36 = .ok (.aload_n 0, 1) := by decide +kernel
theorem dX13_readMemory_37 : decode cX13_readMemory 37 = .ok (.invokevirtual 238, 3) := by decide +kernel
theorem dX13_readMemory_40 : decode cX13_readMemory 40 = .ok (.invokevirtual 214, 3) := by decide +kernel
theorem dX13_readMemory_43 : decode cX13_readMemory 43 = .ok (.aload_n 0, 1) := by decide +kernel
theorem dX13_readMemory_44 : decode cX13_readMemory 44 = .ok (.getfield 31, 3) := by decide +kernel
theorem dX13_readMemory_47 : decode cX13_readMemory 47 = .ok (.iload_n 1, 1) := by decide +kernel
theorem dX13_readMemory_48 : decode cX13_readMemory 48 = .ok (.iconst 3, 1) := by decide +kernel
theorem dX13_readMemory_49 : decode cX13_readMemory 49 = .ok (.iadd, 1) := by decide +kernel
theorem dX13_readMemory_50 : decode cX13_readMemory 50 = .ok (.aload_n 0, 1) := by decide +kernel
theorem dX13_readMemory_51 : decode cX13_readMemory 51 = .ok (.invokevirtual 232, 3) := by decide +kernel
theorem dX13_readMemory_54 : decode cX13_readMemory 54 = .ok (.iastore, 1) := by decide +kernel
theorem dX13_readMemory_55 : decode cX13_readMemory 55 = .ok (.return_, 1) := by decide +kernel
theorem dX13_readMemory_56 : decode cX13_readMemory 56 = .ok (.aload_n 0, 1) := by decide +kernel
theorem dX13_readMemory_57 : decode cX13_readMemory 57 = .ok (.aload_n 0, 1) := by decide +kernel
theorem dX13_readMemory_58 : decode cX13_readMemory 58 = .ok (.invokevirtual 241, 3) := by decide +kernel
theorem dX13_readMemory_61 : decode cX13_readMemory 61 = .ok (.invokevirtual 214, 3) := by decide +kernel
theorem dX13_readMemory_64 : decode cX13_readMemory 64 = .ok (.aload_n 0, 1) := by decide +kernel
theorem dX13_readMemory_65 : decode cX13_readMemory 65 = .ok (.getfield 31, 3) := by decide +kernel
theorem dX13_readMemory_68 : decode cX13_readMemory 68 = .ok (.iload_n 1, 1) := by decide +kernel
theorem dX13_readMemory_69 : decode cX13_readMemory 69 = .ok (.iconst 5, 1) := by decide +kernel
theorem dX13_readMemory_70 : decode cX13_readMemory 70 = .ok (.iadd, 1) := by decide +kernel
theorem dX13_readMemory_71 : decode cX13_readMemory 71 = .ok (.aload_n 0, 1) := by decide +kernel
theorem dX13_readMemory_72 : decode cX13_readMemory 72 = .ok (.iconst 0, 1) := by decide +kernel
theorem dX13_readMemory_73 : decode cX13_readMemory 73 = .ok (.bipush 16, 2) := by decide +kernel
theorem dX13_readMemory_75 : decode cX13_readMemory 75 = .ok (.invokevirtual 222, 3) := by decide +kernel
theorem dX13_readMemory_78 : decode cX13_readMemory 78 = .ok (.iastore, 1) := by decide +kernel
theorem dX13_readMemory_79 : decode cX13_readMemory 79 = .ok (.return_, 1) := by decide +kernel
def pX13_readMemory_b35 (g : MT) (this : Nat) (p1 : Int32) (p2 : Int32) (h : CT) : Option CT := bd (pX13_isOf g h this) fun x1 => (bd (pX13_must g h this x1) fun h3 => (lt (hR h3 this 19) fun r5 => (bd2 (pX13_readRow g h3 this) fun x8 h6 => (nn r5 fun a5 => (tg g a5 20 (ix (gL g a5) (p1 + 3) (lt (sI h6 a5 (Int32.toNatClampNeg (p1 + 3)) x8) fun h11 => (some h11))))))))
set_option maxRecDepth 10000 in
set_option maxHeartbeats 4000000 in
theorem pX13_readMemory_b35_ok {X : Cx} {G : Gx} {dk : Nat} {g : MT} {h0 : CT} {this : Nat} {p1 : Int32} {p2 : Int32} (Z : Zx X G cX13_readMemory RX13 3 dk none none g h0) (hK : 4 ≤ dk) (t0 : gT g this = 12) (h : CT) (hf : pX13_readMemory_b35 g this p1 p2 h = some h0) : J X g h 35 [(0, va_rf (some this)), (1, .int p1)] [] := by
  unfold pX13_readMemory_b35 at hf
  refine J_aload_n Z.1 0 dX13_readMemory_35 rfl rfl ?_
  refine J_aload_n Z.1 0 dX13_readMemory_36 rfl rfl ?_
  replace hf := bd_i hf
  obtain ⟨x1, q2, hf⟩ := hf
  refine J_callV (ci := 11) (as := []) (rest := [va_rf (some this)]) (sy := [.int x1, va_rf (some this)]) Z.1 dX13_readMemory_37 cw_X13_238 (pX13_isOf_ok G (dk - 1) (by omega) q2) rfl rfl t0 (zG Z) rfl (by simp [cat_i, cat_l, cat_d, cat_rf]) (zF Z (by omega)) (zO Z (by omega) (by decide)) (zM _) Z.2.1 Z.2.1 rfl rfl ?_
  replace hf := bd_i hf
  obtain ⟨h3, q4, hf⟩ := hf
  refine J_callV (ci := 11) (as := [.int x1]) (rest := []) (sy := []) Z.1 dX13_readMemory_40 cw_X13_214 (pX13_must_ok G (dk - 1) (by omega) q4) rfl rfl t0 (zG Z) rfl (by decide) (zF Z (by omega)) (zO Z (by omega) (by decide)) (zM _) Z.2.1 Z.2.1 rfl rfl ?_
  refine J_aload_n Z.1 0 dX13_readMemory_43 rfl rfl ?_
  refine J_get (v := va_rf (hR h3 this 19)) Z.1 dX13_readMemory_44 fl_X13_31 t0 rfl ?_
  refine J_tr (fun r5 er5 => ?_)
  replace hf := lt_i hf r5 er5
  refine J_iload_n Z.1 1 dX13_readMemory_47 rfl rfl ?_
  refine J_iconst Z.1 (v := 3) (by decide) dX13_readMemory_48 ?_
  refine J_iadd Z.1 dX13_readMemory_49 ?_
  refine J_aload_n Z.1 0 dX13_readMemory_50 rfl rfl ?_
  replace hf := bd2_i hf
  obtain ⟨x8, h6, q7, hf⟩ := hf
  refine J_callV (ci := 11) (as := []) (rest := [.int (p1 + 3), va_rf r5]) (sy := [.int x8, .int (p1 + 3), va_rf r5]) Z.1 dX13_readMemory_51 cw_X13_232 (pX13_readRow_ok G (dk - 1) (by omega) q7) rfl rfl t0 (zG Z) rfl (by simp [cat_i, cat_l, cat_d, cat_rf]) (zF Z (by omega)) (zO Z (by omega) (by decide)) (zM _) Z.2.1 Z.2.1 rfl rfl ?_
  replace hf := nn_i hf
  obtain ⟨a5, rfl, hf⟩ := hf
  replace hf := tg_i hf
  obtain ⟨t9, hf⟩ := hf
  replace hf := ix_i hf
  obtain ⟨i10, hf⟩ := hf
  refine J_iastore Z.1 dX13_readMemory_54 t9 i10 ?_
  refine J_th (fun h11 eh11 => ?_)
  replace hf := lt_i hf h11 eh11
  cases hf
  exact J_vret Z.1 Z.2.2.2.2.2 dX13_readMemory_55
def pX13_readMemory (g : MT) (h : CT) (this : Nat) (p1 : Int32) (p2 : Int32) : Option CT := tg g this 12 (lt (hR h this 19) fun r1 => (bd2 (pX13_readRow g h this) fun x4 h2 => (nn r1 fun a1 => (tg g a1 20 (ix (gL g a1) (p1 + 1) (lt (sI h2 a1 (Int32.toNatClampNeg (p1 + 1)) x4) fun h7 => (lt (hR h7 this 19) fun r8 => (bd2 (pX13_readAt g h7 this) fun x11 h9 => (nn r8 fun a8 => (tg g a8 20 (ix (gL g a8) (p1 + 4) (lt (sI h9 a8 (Int32.toNatClampNeg (p1 + 4)) x11) fun h14 => (if p2 = 5 then pX13_readMemory_b35 g this p1 p2  h14 else if p2 = 6 then pX13_readMemory_b35 g this p1 p2  h14 else bd (pX13_isBy g h14 this) fun x17 => (bd (pX13_must g h14 this x17) fun h19 => (lt (hR h19 this 19) fun r21 => (bd2 (pX13_countOf g h19 this 0 16) fun x24 h22 => (nn r21 fun a21 => (tg g a21 20 (ix (gL g a21) (p1 + 5) (lt (sI h22 a21 (Int32.toNatClampNeg (p1 + 5)) x24) fun h27 => (some h27)))))))))))))))))))))
set_option maxRecDepth 10000 in
set_option maxHeartbeats 4000000 in
theorem pX13_readMemory_ok (G : Gx) (dk : Nat) (hK : 4 ≤ dk) {g : MT} {h h0 : CT} {this : Nat} {p1 : Int32} {p2 : Int32} (hf : pX13_readMemory g h this p1 p2 = some h0) : Ctr G dk yX13_readMemory cX13_readMemory 3 none [va_rf (some this), .int p1, .int p2] g h none g h0 := by
  refine Ctr.ofZ (lv := [(0, va_rf (some this)), (1, .int p1), (2, .int p2)]) (by decide +kernel) (by simp [cat_i, cat_l, cat_d, cat_rf]) rfl fun X Z => ?_
  unfold pX13_readMemory at hf
  replace hf := tg_i hf
  obtain ⟨t0, hf⟩ := hf
  refine J_aload_n Z.1 0 dX13_readMemory_0 rfl rfl ?_
  refine J_get (v := va_rf (hR h this 19)) Z.1 dX13_readMemory_1 fl_X13_31 t0 rfl ?_
  refine J_tr (fun r1 er1 => ?_)
  replace hf := lt_i hf r1 er1
  refine J_iload_n Z.1 1 dX13_readMemory_4 rfl rfl ?_
  refine J_iconst Z.1 (v := 1) (by decide) dX13_readMemory_5 ?_
  refine J_iadd Z.1 dX13_readMemory_6 ?_
  refine J_aload_n Z.1 0 dX13_readMemory_7 rfl rfl ?_
  replace hf := bd2_i hf
  obtain ⟨x4, h2, q3, hf⟩ := hf
  refine J_callV (ci := 11) (as := []) (rest := [.int (p1 + 1), va_rf r1]) (sy := [.int x4, .int (p1 + 1), va_rf r1]) Z.1 dX13_readMemory_8 cw_X13_232 (pX13_readRow_ok G (dk - 1) (by omega) q3) rfl rfl t0 (zG Z) rfl (by simp [cat_i, cat_l, cat_d, cat_rf]) (zF Z (by omega)) (zO Z (by omega) (by decide)) (zM _) Z.2.1 Z.2.1 rfl rfl ?_
  replace hf := nn_i hf
  obtain ⟨a1, rfl, hf⟩ := hf
  replace hf := tg_i hf
  obtain ⟨t5, hf⟩ := hf
  replace hf := ix_i hf
  obtain ⟨i6, hf⟩ := hf
  refine J_iastore Z.1 dX13_readMemory_11 t5 i6 ?_
  refine J_th (fun h7 eh7 => ?_)
  replace hf := lt_i hf h7 eh7
  refine J_aload_n Z.1 0 dX13_readMemory_12 rfl rfl ?_
  refine J_get (v := va_rf (hR h7 this 19)) Z.1 dX13_readMemory_13 fl_X13_31 t0 rfl ?_
  refine J_tr (fun r8 er8 => ?_)
  replace hf := lt_i hf r8 er8
  refine J_iload_n Z.1 1 dX13_readMemory_16 rfl rfl ?_
  refine J_iconst Z.1 (v := 4) (by decide) dX13_readMemory_17 ?_
  refine J_iadd Z.1 dX13_readMemory_18 ?_
  refine J_aload_n Z.1 0 dX13_readMemory_19 rfl rfl ?_
  replace hf := bd2_i hf
  obtain ⟨x11, h9, q10, hf⟩ := hf
  refine J_callV (ci := 11) (as := []) (rest := [.int (p1 + 4), va_rf r8]) (sy := [.int x11, .int (p1 + 4), va_rf r8]) Z.1 dX13_readMemory_20 cw_X13_235 (pX13_readAt_ok G (dk - 1) (by omega) q10) rfl rfl t0 (zG Z) rfl (by simp [cat_i, cat_l, cat_d, cat_rf]) (zF Z (by omega)) (zO Z (by omega) (by decide)) (zM _) Z.2.1 Z.2.1 rfl rfl ?_
  replace hf := nn_i hf
  obtain ⟨a8, rfl, hf⟩ := hf
  replace hf := tg_i hf
  obtain ⟨t12, hf⟩ := hf
  replace hf := ix_i hf
  obtain ⟨i13, hf⟩ := hf
  refine J_iastore Z.1 dX13_readMemory_23 t12 i13 ?_
  refine J_th (fun h14 eh14 => ?_)
  replace hf := lt_i hf h14 eh14
  refine J_iload_n Z.1 2 dX13_readMemory_24 rfl rfl ?_
  refine J_iconst Z.1 (v := 5) (by decide) dX13_readMemory_25 ?_
  refine J_icmp_eq Z.1 35 dX13_readMemory_26 (by decide) (fun c15 => ?_) (fun c15 => ?_)
  · rw [if_pos c15] at hf
    refine J_lv [0, 1] rfl ?_
    exact pX13_readMemory_b35_ok Z hK t0  _ hf
  · rw [if_neg c15] at hf
    refine J_iload_n Z.1 2 dX13_readMemory_29 rfl rfl ?_
    refine J_bipush Z.1 (v := 6) (by decide) dX13_readMemory_30 ?_
    refine J_icmp_ne Z.1 56 dX13_readMemory_32 (by decide) (fun c16 => ?_) (fun c16 => ?_)
    · rw [if_neg c16] at hf
      refine J_aload_n Z.1 0 dX13_readMemory_56 rfl rfl ?_
      refine J_aload_n Z.1 0 dX13_readMemory_57 rfl rfl ?_
      replace hf := bd_i hf
      obtain ⟨x17, q18, hf⟩ := hf
      refine J_callV (ci := 11) (as := []) (rest := [va_rf (some this)]) (sy := [.int x17, va_rf (some this)]) Z.1 dX13_readMemory_58 cw_X13_241 (pX13_isBy_ok G (dk - 1) (by omega) q18) rfl rfl t0 (zG Z) rfl (by simp [cat_i, cat_l, cat_d, cat_rf]) (zF Z (by omega)) (zO Z (by omega) (by decide)) (zM _) Z.2.1 Z.2.1 rfl rfl ?_
      replace hf := bd_i hf
      obtain ⟨h19, q20, hf⟩ := hf
      refine J_callV (ci := 11) (as := [.int x17]) (rest := []) (sy := []) Z.1 dX13_readMemory_61 cw_X13_214 (pX13_must_ok G (dk - 1) (by omega) q20) rfl rfl t0 (zG Z) rfl (by decide) (zF Z (by omega)) (zO Z (by omega) (by decide)) (zM _) Z.2.1 Z.2.1 rfl rfl ?_
      refine J_aload_n Z.1 0 dX13_readMemory_64 rfl rfl ?_
      refine J_get (v := va_rf (hR h19 this 19)) Z.1 dX13_readMemory_65 fl_X13_31 t0 rfl ?_
      refine J_tr (fun r21 er21 => ?_)
      replace hf := lt_i hf r21 er21
      refine J_iload_n Z.1 1 dX13_readMemory_68 rfl rfl ?_
      refine J_iconst Z.1 (v := 5) (by decide) dX13_readMemory_69 ?_
      refine J_iadd Z.1 dX13_readMemory_70 ?_
      refine J_aload_n Z.1 0 dX13_readMemory_71 rfl rfl ?_
      refine J_iconst Z.1 (v := 0) (by decide) dX13_readMemory_72 ?_
      refine J_bipush Z.1 (v := 16) (by decide) dX13_readMemory_73 ?_
      replace hf := bd2_i hf
      obtain ⟨x24, h22, q23, hf⟩ := hf
      refine J_callV (ci := 11) (as := [.int 0, .int 16]) (rest := [.int (p1 + 5), va_rf r21]) (sy := [.int x24, .int (p1 + 5), va_rf r21]) Z.1 dX13_readMemory_75 cw_X13_222 (pX13_countOf_ok G (dk - 1) (by omega) q23) rfl rfl t0 (zG Z) rfl (by simp [cat_i, cat_l, cat_d, cat_rf]) (zF Z (by omega)) (zO Z (by omega) (by decide)) (zM _) Z.2.1 Z.2.1 rfl rfl ?_
      replace hf := nn_i hf
      obtain ⟨a21, rfl, hf⟩ := hf
      replace hf := tg_i hf
      obtain ⟨t25, hf⟩ := hf
      replace hf := ix_i hf
      obtain ⟨i26, hf⟩ := hf
      refine J_iastore Z.1 dX13_readMemory_78 t25 i26 ?_
      refine J_th (fun h27 eh27 => ?_)
      replace hf := lt_i hf h27 eh27
      cases hf
      exact J_vret Z.1 Z.2.2.2.2.2 dX13_readMemory_79
    · rw [if_pos c16] at hf
      refine J_lv [0, 1] rfl ?_
      exact pX13_readMemory_b35_ok Z hK t0  _ hf
