/-! written by wip/whole/gen.py out of the printed bytecode -/
theorem dX13_scalarWord_0 : decode cX13_scalarWord 0 = .ok (.aload_n 0, 1) := by decide +kernel
theorem dX13_scalarWord_1 : decode cX13_scalarWord 1 = .ok (.bipush 102, 2) := by decide +kernel
theorem dX13_scalarWord_3 : decode cX13_scalarWord 3 = .ok (.bipush 105, 2) := by decide +kernel
theorem dX13_scalarWord_5 : decode cX13_scalarWord 5 = .ok (.bipush 108, 2) := by decide +kernel
theorem dX13_scalarWord_7 : decode cX13_scalarWord 7 = .ok (.bipush 108, 2) := by decide +kernel
theorem dX13_scalarWord_9 : decode cX13_scalarWord 9 = .ok (.iconst 0, 1) := by decide +kernel
theorem dX13_scalarWord_10 : decode cX13_scalarWord 10 = .ok (.iconst 0, 1) := by decide +kernel
theorem dX13_scalarWord_11 : decode cX13_scalarWord 11 = .ok (.invokestatic 161, 3) := by decide +kernel
theorem dX13_scalarWord_14 : decode cX13_scalarWord 14 = .ok (.invokevirtual 165, 3) := by decide +kernel
theorem dX13_scalarWord_17 : decode cX13_scalarWord 17 = .ok (.ifCond .eq 5, 3) := by decide +kernel
theorem dX13_scalarWord_20 : decode cX13_scalarWord 20 = .ok (.iconst 2, 1) := by decide +kernel
theorem dX13_scalarWord_21 : decode cX13_scalarWord 21 = .ok (.ireturn, 1) := by decide +kernel
theorem dX13_scalarWord_22 : decode cX13_scalarWord 22 = .ok (.aload_n 0, 1) := by decide +kernel
theorem dX13_scalarWord_23 : decode cX13_scalarWord 23 = .ok (.bipush 99, 2) := by decide +kernel
theorem dX13_scalarWord_25 : decode cX13_scalarWord 25 = .ok (.bipush 111, 2) := by decide +kernel
theorem dX13_scalarWord_27 : decode cX13_scalarWord 27 = .ok (.bipush 117, 2) := by decide +kernel
theorem dX13_scalarWord_29 : decode cX13_scalarWord 29 = .ok (.bipush 110, 2) := by decide +kernel
theorem dX13_scalarWord_31 : decode cX13_scalarWord 31 = .ok (.bipush 116, 2) := by decide +kernel
theorem dX13_scalarWord_33 : decode cX13_scalarWord 33 = .ok (.iconst 0, 1) := by decide +kernel
theorem dX13_scalarWord_34 : decode cX13_scalarWord 34 = .ok (.invokestatic 161, 3) := by decide +kernel
theorem dX13_scalarWord_37 : decode cX13_scalarWord 37 = .ok (.invokevirtual 165, 3) := by decide +kernel
theorem dX13_scalarWord_40 : decode cX13_scalarWord 40 = .ok (.ifCond .eq 6, 3) := by decide +kernel
theorem dX13_scalarWord_43 : decode cX13_scalarWord 43 = .ok (.bipush 22, 2) := by decide +kernel
theorem dX13_scalarWord_45 : decode cX13_scalarWord 45 = .ok (.ireturn, 1) := by decide +kernel
theorem dX13_scalarWord_46 : decode cX13_scalarWord 46 = .ok (.aload_n 0, 1) := by decide +kernel
theorem dX13_scalarWord_47 : decode cX13_scalarWord 47 = .ok (.bipush 102, 2) := by decide +kernel
theorem dX13_scalarWord_49 : decode cX13_scalarWord 49 = .ok (.bipush 111, 2) := by decide +kernel
theorem dX13_scalarWord_51 : decode cX13_scalarWord 51 = .ok (.bipush 108, 2) := by decide +kernel
theorem dX13_scalarWord_53 : decode cX13_scalarWord 53 = .ok (.bipush 100, 2) := by decide +kernel
theorem dX13_scalarWord_55 : decode cX13_scalarWord 55 = .ok (.iconst 0, 1) := by decide +kernel
theorem dX13_scalarWord_56 : decode cX13_scalarWord 56 = .ok (.iconst 0, 1) := by decide +kernel
theorem dX13_scalarWord_57 : decode cX13_scalarWord 57 = .ok (.invokestatic 161, 3) := by decide +kernel
theorem dX13_scalarWord_60 : decode cX13_scalarWord 60 = .ok (.invokevirtual 165, 3) := by decide +kernel
theorem dX13_scalarWord_63 : decode cX13_scalarWord 63 = .ok (.ifCond .eq 6, 3) := by decide +kernel
theorem dX13_scalarWord_66 : decode cX13_scalarWord 66 = .ok (.bipush 23, 2) := by decide +kernel
theorem dX13_scalarWord_68 : decode cX13_scalarWord 68 = .ok (.ireturn, 1) := by decide +kernel
theorem dX13_scalarWord_69 : decode cX13_scalarWord 69 = .ok (.aload_n 0, 1) := by decide +kernel
theorem dX13_scalarWord_70 : decode cX13_scalarWord 70 = .ok (.bipush 116, 2) := by decide +kernel
theorem dX13_scalarWord_72 : decode cX13_scalarWord 72 = .ok (.bipush 111, 2) := by decide +kernel
theorem dX13_scalarWord_74 : decode cX13_scalarWord 74 = .ok (.bipush 112, 2) := by decide +kernel
theorem dX13_scalarWord_76 : decode cX13_scalarWord 76 = .ok (.iconst 0, 1) := by decide +kernel
theorem dX13_scalarWord_77 : decode cX13_scalarWord 77 = .ok (.iconst 0, 1) := by decide +kernel
theorem dX13_scalarWord_78 : decode cX13_scalarWord 78 = .ok (.iconst 0, 1) := by decide +kernel
theorem dX13_scalarWord_79 : decode cX13_scalarWord 79 = .ok (.invokestatic 161, 3) := by decide +kernel
theorem dX13_scalarWord_82 : decode cX13_scalarWord 82 = .ok (.invokevirtual 165, 3) := by decide +kernel
theorem dX13_scalarWord_85 : decode cX13_scalarWord 85 = .ok (.ifCond .eq 8, 3) := by decide +kernel
theorem dX13_scalarWord_88 : decode cX13_scalarWord 88 = .ok (.bipush 24, 2) := by decide +kernel
theorem dX13_scalarWord_90 : decode cX13_scalarWord 90 = .ok (.goto 4, 3) := by decide +kernel
theorem dX13_scalarWord_93 : decode cX13_scalarWord 93 = .ok (.iconst (-1), 1) := by decide +kernel
theorem dX13_scalarWord_94 : decode cX13_scalarWord 94 = .ok (.ireturn, 1) := by decide +kernel
def pX13_scalarWord (g : MT) (h : CT) (this : Nat) : Option Int32 := tg g this 12 (bd (pX13_isWord g h this (pX13_spelled 102 105 108 108 0 0)) fun x1 => (if x1 = 0 then bd (pX13_isWord g h this (pX13_spelled 99 111 117 110 116 0)) fun x4 => (if x4 = 0 then bd (pX13_isWord g h this (pX13_spelled 102 111 108 100 0 0)) fun x7 => (if x7 = 0 then bd (pX13_isWord g h this (pX13_spelled 116 111 112 0 0 0)) fun x10 => (if x10 = 0 then some (-1) else some 24) else some 23) else some 22) else some 2))
set_option maxRecDepth 10000 in
set_option maxHeartbeats 4000000 in
theorem pX13_scalarWord_ok (G : Gx) (dk : Nat) (hK : 1 ≤ dk) {g : MT} {h : CT} {this : Nat} {r0 : Int32} (hf : pX13_scalarWord g h this = some r0) : Ctr G dk yX13_scalarWord cX13_scalarWord 1 (some .int) [va_rf (some this)] g h (some (.int r0)) g h := by
  refine Ctr.ofZ (lv := [(0, va_rf (some this))]) (by decide +kernel) (by simp [cat_i, cat_l, cat_d, cat_rf]) rfl fun X Z => ?_
  unfold pX13_scalarWord at hf
  obtain ⟨t0, hf⟩ := tg_i hf
  refine J_aload_n Z.1 0 dX13_scalarWord_0 rfl rfl ?_
  refine J_bipush Z.1 (v := 102) (by decide) dX13_scalarWord_1 ?_
  refine J_bipush Z.1 (v := 105) (by decide) dX13_scalarWord_3 ?_
  refine J_bipush Z.1 (v := 108) (by decide) dX13_scalarWord_5 ?_
  refine J_bipush Z.1 (v := 108) (by decide) dX13_scalarWord_7 ?_
  refine J_iconst Z.1 (v := 0) (by decide) dX13_scalarWord_9 ?_
  refine J_iconst Z.1 (v := 0) (by decide) dX13_scalarWord_10 ?_
  refine J_callS (as := [.int 102, .int 105, .int 108, .int 108, .int 0, .int 0]) (rest := [va_rf (some this)]) (sy := [.long (pX13_spelled 102 105 108 108 0 0), va_rf (some this)]) Z.1 dX13_scalarWord_11 cw_X13_161 (pX13_spelled_ok G (dk - 1) (by omega) g h 102 105 108 108 0 0) (zG Z) rfl (by simp [cat_i, cat_l, cat_d, cat_rf]) (zF Z (by omega)) (zO Z (by omega) (by decide)) (zM _) Z.2.1 Z.2.1 rfl rfl ?_
  obtain ⟨x1, q2, hf⟩ := bd_i hf
  refine J_callV (ci := 11) (as := [.long (pX13_spelled 102 105 108 108 0 0)]) (rest := []) (sy := [.int x1]) Z.1 dX13_scalarWord_14 cw_X13_165 (pX13_isWord_ok G (dk - 1) (by omega) q2) rfl rfl t0 (zG Z) rfl (by decide) (zF Z (by omega)) (zO Z (by omega) (by decide)) (zM _) Z.2.1 Z.2.1 rfl rfl ?_
  refine J_if_eq Z.1 22 dX13_scalarWord_17 (by decide) (fun c3 => ?_) (fun c3 => ?_)
  · rw [if_pos c3] at hf
    refine J_aload_n Z.1 0 dX13_scalarWord_22 rfl rfl ?_
    refine J_bipush Z.1 (v := 99) (by decide) dX13_scalarWord_23 ?_
    refine J_bipush Z.1 (v := 111) (by decide) dX13_scalarWord_25 ?_
    refine J_bipush Z.1 (v := 117) (by decide) dX13_scalarWord_27 ?_
    refine J_bipush Z.1 (v := 110) (by decide) dX13_scalarWord_29 ?_
    refine J_bipush Z.1 (v := 116) (by decide) dX13_scalarWord_31 ?_
    refine J_iconst Z.1 (v := 0) (by decide) dX13_scalarWord_33 ?_
    refine J_callS (as := [.int 99, .int 111, .int 117, .int 110, .int 116, .int 0]) (rest := [va_rf (some this)]) (sy := [.long (pX13_spelled 99 111 117 110 116 0), va_rf (some this)]) Z.1 dX13_scalarWord_34 cw_X13_161 (pX13_spelled_ok G (dk - 1) (by omega) g h 99 111 117 110 116 0) (zG Z) rfl (by simp [cat_i, cat_l, cat_d, cat_rf]) (zF Z (by omega)) (zO Z (by omega) (by decide)) (zM _) Z.2.1 Z.2.1 rfl rfl ?_
    obtain ⟨x4, q5, hf⟩ := bd_i hf
    refine J_callV (ci := 11) (as := [.long (pX13_spelled 99 111 117 110 116 0)]) (rest := []) (sy := [.int x4]) Z.1 dX13_scalarWord_37 cw_X13_165 (pX13_isWord_ok G (dk - 1) (by omega) q5) rfl rfl t0 (zG Z) rfl (by decide) (zF Z (by omega)) (zO Z (by omega) (by decide)) (zM _) Z.2.1 Z.2.1 rfl rfl ?_
    refine J_if_eq Z.1 46 dX13_scalarWord_40 (by decide) (fun c6 => ?_) (fun c6 => ?_)
    · rw [if_pos c6] at hf
      refine J_aload_n Z.1 0 dX13_scalarWord_46 rfl rfl ?_
      refine J_bipush Z.1 (v := 102) (by decide) dX13_scalarWord_47 ?_
      refine J_bipush Z.1 (v := 111) (by decide) dX13_scalarWord_49 ?_
      refine J_bipush Z.1 (v := 108) (by decide) dX13_scalarWord_51 ?_
      refine J_bipush Z.1 (v := 100) (by decide) dX13_scalarWord_53 ?_
      refine J_iconst Z.1 (v := 0) (by decide) dX13_scalarWord_55 ?_
      refine J_iconst Z.1 (v := 0) (by decide) dX13_scalarWord_56 ?_
      refine J_callS (as := [.int 102, .int 111, .int 108, .int 100, .int 0, .int 0]) (rest := [va_rf (some this)]) (sy := [.long (pX13_spelled 102 111 108 100 0 0), va_rf (some this)]) Z.1 dX13_scalarWord_57 cw_X13_161 (pX13_spelled_ok G (dk - 1) (by omega) g h 102 111 108 100 0 0) (zG Z) rfl (by simp [cat_i, cat_l, cat_d, cat_rf]) (zF Z (by omega)) (zO Z (by omega) (by decide)) (zM _) Z.2.1 Z.2.1 rfl rfl ?_
      obtain ⟨x7, q8, hf⟩ := bd_i hf
      refine J_callV (ci := 11) (as := [.long (pX13_spelled 102 111 108 100 0 0)]) (rest := []) (sy := [.int x7]) Z.1 dX13_scalarWord_60 cw_X13_165 (pX13_isWord_ok G (dk - 1) (by omega) q8) rfl rfl t0 (zG Z) rfl (by decide) (zF Z (by omega)) (zO Z (by omega) (by decide)) (zM _) Z.2.1 Z.2.1 rfl rfl ?_
      refine J_if_eq Z.1 69 dX13_scalarWord_63 (by decide) (fun c9 => ?_) (fun c9 => ?_)
      · rw [if_pos c9] at hf
        refine J_aload_n Z.1 0 dX13_scalarWord_69 rfl rfl ?_
        refine J_bipush Z.1 (v := 116) (by decide) dX13_scalarWord_70 ?_
        refine J_bipush Z.1 (v := 111) (by decide) dX13_scalarWord_72 ?_
        refine J_bipush Z.1 (v := 112) (by decide) dX13_scalarWord_74 ?_
        refine J_iconst Z.1 (v := 0) (by decide) dX13_scalarWord_76 ?_
        refine J_iconst Z.1 (v := 0) (by decide) dX13_scalarWord_77 ?_
        refine J_iconst Z.1 (v := 0) (by decide) dX13_scalarWord_78 ?_
        refine J_callS (as := [.int 116, .int 111, .int 112, .int 0, .int 0, .int 0]) (rest := [va_rf (some this)]) (sy := [.long (pX13_spelled 116 111 112 0 0 0), va_rf (some this)]) Z.1 dX13_scalarWord_79 cw_X13_161 (pX13_spelled_ok G (dk - 1) (by omega) g h 116 111 112 0 0 0) (zG Z) rfl (by simp [cat_i, cat_l, cat_d, cat_rf]) (zF Z (by omega)) (zO Z (by omega) (by decide)) (zM _) Z.2.1 Z.2.1 rfl rfl ?_
        obtain ⟨x10, q11, hf⟩ := bd_i hf
        refine J_callV (ci := 11) (as := [.long (pX13_spelled 116 111 112 0 0 0)]) (rest := []) (sy := [.int x10]) Z.1 dX13_scalarWord_82 cw_X13_165 (pX13_isWord_ok G (dk - 1) (by omega) q11) rfl rfl t0 (zG Z) rfl (by decide) (zF Z (by omega)) (zO Z (by omega) (by decide)) (zM _) Z.2.1 Z.2.1 rfl rfl ?_
        refine J_if_eq Z.1 93 dX13_scalarWord_85 (by decide) (fun c12 => ?_) (fun c12 => ?_)
        · rw [if_pos c12] at hf
          refine J_iconst Z.1 (v := (-1)) (by decide) dX13_scalarWord_93 ?_
          cases hf
          exact J_iret Z.1 Z.2.2.2.2.2 dX13_scalarWord_94
        · rw [if_neg c12] at hf
          refine J_bipush Z.1 (v := 24) (by decide) dX13_scalarWord_88 ?_
          refine J_goto Z.1 94 dX13_scalarWord_90 (by decide) ?_
          cases hf
          exact J_iret Z.1 Z.2.2.2.2.2 dX13_scalarWord_94
      · rw [if_neg c9] at hf
        refine J_bipush Z.1 (v := 23) (by decide) dX13_scalarWord_66 ?_
        cases hf
        exact J_iret Z.1 Z.2.2.2.2.2 dX13_scalarWord_68
    · rw [if_neg c6] at hf
      refine J_bipush Z.1 (v := 22) (by decide) dX13_scalarWord_43 ?_
      cases hf
      exact J_iret Z.1 Z.2.2.2.2.2 dX13_scalarWord_45
  · rw [if_neg c3] at hf
    refine J_iconst Z.1 (v := 2) (by decide) dX13_scalarWord_20 ?_
    cases hf
    exact J_iret Z.1 Z.2.2.2.2.2 dX13_scalarWord_21
theorem dX13_plainWord_0 : decode cX13_plainWord 0 = .ok (.aload_n 0, 1) := by decide +kernel
theorem dX13_plainWord_1 : decode cX13_plainWord 1 = .ok (.bipush 115, 2) := by decide +kernel
theorem dX13_plainWord_3 : decode cX13_plainWord 3 = .ok (.bipush 101, 2) := by decide +kernel
theorem dX13_plainWord_5 : decode cX13_plainWord 5 = .ok (.bipush 116, 2) := by decide +kernel
theorem dX13_plainWord_7 : decode cX13_plainWord 7 = .ok (.bipush 118, 2) := by decide +kernel
theorem dX13_plainWord_9 : decode cX13_plainWord 9 = .ok (.bipush 108, 2) := by decide +kernel
theorem dX13_plainWord_11 : decode cX13_plainWord 11 = .ok (.iconst 0, 1) := by decide +kernel
theorem dX13_plainWord_12 : decode cX13_plainWord 12 = .ok (.invokestatic 161, 3) := by decide +kernel
theorem dX13_plainWord_15 : decode cX13_plainWord 15 = .ok (.invokevirtual 165, 3) := by decide +kernel
theorem dX13_plainWord_18 : decode cX13_plainWord 18 = .ok (.ifCond .eq 5, 3) := by decide +kernel
theorem dX13_plainWord_21 : decode cX13_plainWord 21 = .ok (.iconst 0, 1) := by decide +kernel
theorem dX13_plainWord_22 : decode cX13_plainWord 22 = .ok (.ireturn, 1) := by decide +kernel
theorem dX13_plainWord_23 : decode cX13_plainWord 23 = .ok (.aload_n 0, 1) := by decide +kernel
theorem dX13_plainWord_24 : decode cX13_plainWord 24 = .ok (.bipush 105, 2) := by decide +kernel
theorem dX13_plainWord_26 : decode cX13_plainWord 26 = .ok (.bipush 111, 2) := by decide +kernel
theorem dX13_plainWord_28 : decode cX13_plainWord 28 = .ok (.bipush 116, 2) := by decide +kernel
theorem dX13_plainWord_30 : decode cX13_plainWord 30 = .ok (.bipush 97, 2) := by decide +kernel
theorem dX13_plainWord_32 : decode cX13_plainWord 32 = .ok (.iconst 0, 1) := by decide +kernel
theorem dX13_plainWord_33 : decode cX13_plainWord 33 = .ok (.iconst 0, 1) := by decide +kernel
theorem dX13_plainWord_34 : decode cX13_plainWord 34 = .ok (.invokestatic 161, 3) := by decide +kernel
theorem dX13_plainWord_37 : decode cX13_plainWord 37 = .ok (.invokevirtual 165, 3) := by decide +kernel
theorem dX13_plainWord_40 : decode cX13_plainWord 40 = .ok (.ifCond .eq 5, 3) := by decide +kernel
theorem dX13_plainWord_43 : decode cX13_plainWord 43 = .ok (.iconst 1, 1) := by decide +kernel
theorem dX13_plainWord_44 : decode cX13_plainWord 44 = .ok (.ireturn, 1) := by decide +kernel
theorem dX13_plainWord_45 : decode cX13_plainWord 45 = .ok (.aload_n 0, 1) := by decide +kernel
theorem dX13_plainWord_46 : decode cX13_plainWord 46 = .ok (.bipush 115, 2) := by decide +kernel
theorem dX13_plainWord_48 : decode cX13_plainWord 48 = .ok (.bipush 116, 2) := by decide +kernel
theorem dX13_plainWord_50 : decode cX13_plainWord 50 = .ok (.bipush 114, 2) := by decide +kernel
theorem dX13_plainWord_52 : decode cX13_plainWord 52 = .ok (.bipush 105, 2) := by decide +kernel
theorem dX13_plainWord_54 : decode cX13_plainWord 54 = .ok (.bipush 112, 2) := by decide +kernel
theorem dX13_plainWord_56 : decode cX13_plainWord 56 = .ok (.iconst 0, 1) := by decide +kernel
theorem dX13_plainWord_57 : decode cX13_plainWord 57 = .ok (.invokestatic 161, 3) := by decide +kernel
theorem dX13_plainWord_60 : decode cX13_plainWord 60 = .ok (.invokevirtual 165, 3) := by decide +kernel
theorem dX13_plainWord_63 : decode cX13_plainWord 63 = .ok (.ifCond .eq 6, 3) := by decide +kernel
theorem dX13_plainWord_66 : decode cX13_plainWord 66 = .ok (.bipush 25, 2) := by decide +kernel
theorem dX13_plainWord_68 : decode cX13_plainWord 68 = .ok (.ireturn, 1) := by decide +kernel
theorem dX13_plainWord_69 : decode cX13_plainWord 69 = .ok (.aload_n 0, 1) := by decide +kernel
theorem dX13_plainWord_70 : decode cX13_plainWord 70 = .ok (.bipush 115, 2) := by decide +kernel
theorem dX13_plainWord_72 : decode cX13_plainWord 72 = .ok (.bipush 116, 2) := by decide +kernel
theorem dX13_plainWord_74 : decode cX13_plainWord 74 = .ok (.bipush 111, 2) := by decide +kernel
theorem dX13_plainWord_76 : decode cX13_plainWord 76 = .ok (.bipush 112, 2) := by decide +kernel
theorem dX13_plainWord_78 : decode cX13_plainWord 78 = .ok (.iconst 0, 1) := by decide +kernel
theorem dX13_plainWord_79 : decode cX13_plainWord 79 = .ok (.iconst 0, 1) := by decide +kernel
theorem dX13_plainWord_80 : decode cX13_plainWord 80 = .ok (.invokestatic 161, 3) := by decide +kernel
theorem dX13_plainWord_83 : decode cX13_plainWord 83 = .ok (.invokevirtual 165, 3) := by decide +kernel
theorem dX13_plainWord_86 : decode cX13_plainWord 86 = .ok (.ifCond .eq 8, 3) := by decide +kernel
theorem dX13_plainWord_89 : decode cX13_plainWord 89 = .ok (.bipush 26, 2) := by decide +kernel
theorem dX13_plainWord_91 : decode cX13_plainWord 91 = .ok (.goto 4, 3) := by decide +kernel
theorem dX13_plainWord_94 : decode cX13_plainWord 94 = .ok (.iconst (-1), 1) := by decide +kernel
theorem dX13_plainWord_95 : decode cX13_plainWord 95 = .ok (.ireturn, 1) := by decide +kernel
def pX13_plainWord (g : MT) (h : CT) (this : Nat) : Option Int32 := tg g this 12 (bd (pX13_isWord g h this (pX13_spelled 115 101 116 118 108 0)) fun x1 => (if x1 = 0 then bd (pX13_isWord g h this (pX13_spelled 105 111 116 97 0 0)) fun x4 => (if x4 = 0 then bd (pX13_isWord g h this (pX13_spelled 115 116 114 105 112 0)) fun x7 => (if x7 = 0 then bd (pX13_isWord g h this (pX13_spelled 115 116 111 112 0 0)) fun x10 => (if x10 = 0 then some (-1) else some 26) else some 25) else some 1) else some 0))
set_option maxRecDepth 10000 in
set_option maxHeartbeats 4000000 in
theorem pX13_plainWord_ok (G : Gx) (dk : Nat) (hK : 1 ≤ dk) {g : MT} {h : CT} {this : Nat} {r0 : Int32} (hf : pX13_plainWord g h this = some r0) : Ctr G dk yX13_plainWord cX13_plainWord 1 (some .int) [va_rf (some this)] g h (some (.int r0)) g h := by
  refine Ctr.ofZ (lv := [(0, va_rf (some this))]) (by decide +kernel) (by simp [cat_i, cat_l, cat_d, cat_rf]) rfl fun X Z => ?_
  unfold pX13_plainWord at hf
  obtain ⟨t0, hf⟩ := tg_i hf
  refine J_aload_n Z.1 0 dX13_plainWord_0 rfl rfl ?_
  refine J_bipush Z.1 (v := 115) (by decide) dX13_plainWord_1 ?_
  refine J_bipush Z.1 (v := 101) (by decide) dX13_plainWord_3 ?_
  refine J_bipush Z.1 (v := 116) (by decide) dX13_plainWord_5 ?_
  refine J_bipush Z.1 (v := 118) (by decide) dX13_plainWord_7 ?_
  refine J_bipush Z.1 (v := 108) (by decide) dX13_plainWord_9 ?_
  refine J_iconst Z.1 (v := 0) (by decide) dX13_plainWord_11 ?_
  refine J_callS (as := [.int 115, .int 101, .int 116, .int 118, .int 108, .int 0]) (rest := [va_rf (some this)]) (sy := [.long (pX13_spelled 115 101 116 118 108 0), va_rf (some this)]) Z.1 dX13_plainWord_12 cw_X13_161 (pX13_spelled_ok G (dk - 1) (by omega) g h 115 101 116 118 108 0) (zG Z) rfl (by simp [cat_i, cat_l, cat_d, cat_rf]) (zF Z (by omega)) (zO Z (by omega) (by decide)) (zM _) Z.2.1 Z.2.1 rfl rfl ?_
  obtain ⟨x1, q2, hf⟩ := bd_i hf
  refine J_callV (ci := 11) (as := [.long (pX13_spelled 115 101 116 118 108 0)]) (rest := []) (sy := [.int x1]) Z.1 dX13_plainWord_15 cw_X13_165 (pX13_isWord_ok G (dk - 1) (by omega) q2) rfl rfl t0 (zG Z) rfl (by decide) (zF Z (by omega)) (zO Z (by omega) (by decide)) (zM _) Z.2.1 Z.2.1 rfl rfl ?_
  refine J_if_eq Z.1 23 dX13_plainWord_18 (by decide) (fun c3 => ?_) (fun c3 => ?_)
  · rw [if_pos c3] at hf
    refine J_aload_n Z.1 0 dX13_plainWord_23 rfl rfl ?_
    refine J_bipush Z.1 (v := 105) (by decide) dX13_plainWord_24 ?_
    refine J_bipush Z.1 (v := 111) (by decide) dX13_plainWord_26 ?_
    refine J_bipush Z.1 (v := 116) (by decide) dX13_plainWord_28 ?_
    refine J_bipush Z.1 (v := 97) (by decide) dX13_plainWord_30 ?_
    refine J_iconst Z.1 (v := 0) (by decide) dX13_plainWord_32 ?_
    refine J_iconst Z.1 (v := 0) (by decide) dX13_plainWord_33 ?_
    refine J_callS (as := [.int 105, .int 111, .int 116, .int 97, .int 0, .int 0]) (rest := [va_rf (some this)]) (sy := [.long (pX13_spelled 105 111 116 97 0 0), va_rf (some this)]) Z.1 dX13_plainWord_34 cw_X13_161 (pX13_spelled_ok G (dk - 1) (by omega) g h 105 111 116 97 0 0) (zG Z) rfl (by simp [cat_i, cat_l, cat_d, cat_rf]) (zF Z (by omega)) (zO Z (by omega) (by decide)) (zM _) Z.2.1 Z.2.1 rfl rfl ?_
    obtain ⟨x4, q5, hf⟩ := bd_i hf
    refine J_callV (ci := 11) (as := [.long (pX13_spelled 105 111 116 97 0 0)]) (rest := []) (sy := [.int x4]) Z.1 dX13_plainWord_37 cw_X13_165 (pX13_isWord_ok G (dk - 1) (by omega) q5) rfl rfl t0 (zG Z) rfl (by decide) (zF Z (by omega)) (zO Z (by omega) (by decide)) (zM _) Z.2.1 Z.2.1 rfl rfl ?_
    refine J_if_eq Z.1 45 dX13_plainWord_40 (by decide) (fun c6 => ?_) (fun c6 => ?_)
    · rw [if_pos c6] at hf
      refine J_aload_n Z.1 0 dX13_plainWord_45 rfl rfl ?_
      refine J_bipush Z.1 (v := 115) (by decide) dX13_plainWord_46 ?_
      refine J_bipush Z.1 (v := 116) (by decide) dX13_plainWord_48 ?_
      refine J_bipush Z.1 (v := 114) (by decide) dX13_plainWord_50 ?_
      refine J_bipush Z.1 (v := 105) (by decide) dX13_plainWord_52 ?_
      refine J_bipush Z.1 (v := 112) (by decide) dX13_plainWord_54 ?_
      refine J_iconst Z.1 (v := 0) (by decide) dX13_plainWord_56 ?_
      refine J_callS (as := [.int 115, .int 116, .int 114, .int 105, .int 112, .int 0]) (rest := [va_rf (some this)]) (sy := [.long (pX13_spelled 115 116 114 105 112 0), va_rf (some this)]) Z.1 dX13_plainWord_57 cw_X13_161 (pX13_spelled_ok G (dk - 1) (by omega) g h 115 116 114 105 112 0) (zG Z) rfl (by simp [cat_i, cat_l, cat_d, cat_rf]) (zF Z (by omega)) (zO Z (by omega) (by decide)) (zM _) Z.2.1 Z.2.1 rfl rfl ?_
      obtain ⟨x7, q8, hf⟩ := bd_i hf
      refine J_callV (ci := 11) (as := [.long (pX13_spelled 115 116 114 105 112 0)]) (rest := []) (sy := [.int x7]) Z.1 dX13_plainWord_60 cw_X13_165 (pX13_isWord_ok G (dk - 1) (by omega) q8) rfl rfl t0 (zG Z) rfl (by decide) (zF Z (by omega)) (zO Z (by omega) (by decide)) (zM _) Z.2.1 Z.2.1 rfl rfl ?_
      refine J_if_eq Z.1 69 dX13_plainWord_63 (by decide) (fun c9 => ?_) (fun c9 => ?_)
      · rw [if_pos c9] at hf
        refine J_aload_n Z.1 0 dX13_plainWord_69 rfl rfl ?_
        refine J_bipush Z.1 (v := 115) (by decide) dX13_plainWord_70 ?_
        refine J_bipush Z.1 (v := 116) (by decide) dX13_plainWord_72 ?_
        refine J_bipush Z.1 (v := 111) (by decide) dX13_plainWord_74 ?_
        refine J_bipush Z.1 (v := 112) (by decide) dX13_plainWord_76 ?_
        refine J_iconst Z.1 (v := 0) (by decide) dX13_plainWord_78 ?_
        refine J_iconst Z.1 (v := 0) (by decide) dX13_plainWord_79 ?_
        refine J_callS (as := [.int 115, .int 116, .int 111, .int 112, .int 0, .int 0]) (rest := [va_rf (some this)]) (sy := [.long (pX13_spelled 115 116 111 112 0 0), va_rf (some this)]) Z.1 dX13_plainWord_80 cw_X13_161 (pX13_spelled_ok G (dk - 1) (by omega) g h 115 116 111 112 0 0) (zG Z) rfl (by simp [cat_i, cat_l, cat_d, cat_rf]) (zF Z (by omega)) (zO Z (by omega) (by decide)) (zM _) Z.2.1 Z.2.1 rfl rfl ?_
        obtain ⟨x10, q11, hf⟩ := bd_i hf
        refine J_callV (ci := 11) (as := [.long (pX13_spelled 115 116 111 112 0 0)]) (rest := []) (sy := [.int x10]) Z.1 dX13_plainWord_83 cw_X13_165 (pX13_isWord_ok G (dk - 1) (by omega) q11) rfl rfl t0 (zG Z) rfl (by decide) (zF Z (by omega)) (zO Z (by omega) (by decide)) (zM _) Z.2.1 Z.2.1 rfl rfl ?_
        refine J_if_eq Z.1 94 dX13_plainWord_86 (by decide) (fun c12 => ?_) (fun c12 => ?_)
        · rw [if_pos c12] at hf
          refine J_iconst Z.1 (v := (-1)) (by decide) dX13_plainWord_94 ?_
          cases hf
          exact J_iret Z.1 Z.2.2.2.2.2 dX13_plainWord_95
        · rw [if_neg c12] at hf
          refine J_bipush Z.1 (v := 26) (by decide) dX13_plainWord_89 ?_
          refine J_goto Z.1 95 dX13_plainWord_91 (by decide) ?_
          cases hf
          exact J_iret Z.1 Z.2.2.2.2.2 dX13_plainWord_95
      · rw [if_neg c9] at hf
        refine J_bipush Z.1 (v := 25) (by decide) dX13_plainWord_66 ?_
        cases hf
        exact J_iret Z.1 Z.2.2.2.2.2 dX13_plainWord_68
    · rw [if_neg c6] at hf
      refine J_iconst Z.1 (v := 1) (by decide) dX13_plainWord_43 ?_
      cases hf
      exact J_iret Z.1 Z.2.2.2.2.2 dX13_plainWord_44
  · rw [if_neg c3] at hf
    refine J_iconst Z.1 (v := 0) (by decide) dX13_plainWord_21 ?_
    cases hf
    exact J_iret Z.1 Z.2.2.2.2.2 dX13_plainWord_22
theorem dX13_codeWord_0 : decode cX13_codeWord 0 = .ok (.aload_n 0, 1) := by decide +kernel
theorem dX13_codeWord_1 : decode cX13_codeWord 1 = .ok (.invokevirtual 171, 3) := by decide +kernel
theorem dX13_codeWord_4 : decode cX13_codeWord 4 = .ok (.aload_n 0, 1) := by decide +kernel
theorem dX13_codeWord_5 : decode cX13_codeWord 5 = .ok (.invokevirtual 175, 3) := by decide +kernel
theorem dX13_codeWord_8 : decode cX13_codeWord 8 = .ok (.invokestatic 178, 3) := by decide +kernel
theorem dX13_codeWord_11 : decode cX13_codeWord 11 = .ok (.aload_n 0, 1) := by decide +kernel
theorem dX13_codeWord_12 : decode cX13_codeWord 12 = .ok (.invokevirtual 183, 3) := by decide +kernel
theorem dX13_codeWord_15 : decode cX13_codeWord 15 = .ok (.aload_n 0, 1) := by decide +kernel
theorem dX13_codeWord_16 : decode cX13_codeWord 16 = .ok (.invokevirtual 186, 3) := by decide +kernel
theorem dX13_codeWord_19 : decode cX13_codeWord 19 = .ok (.invokestatic 178, 3) := by decide +kernel
theorem dX13_codeWord_22 : decode cX13_codeWord 22 = .ok (.invokestatic 178, 3) := by decide +kernel
theorem dX13_codeWord_25 : decode cX13_codeWord 25 = .ok (.aload_n 0, 1) := by decide +kernel
theorem dX13_codeWord_26 : decode cX13_codeWord 26 = .ok (.invokevirtual 189, 3) := by decide +kernel
theorem dX13_codeWord_29 : decode cX13_codeWord 29 = .ok (.aload_n 0, 1) := by decide +kernel
theorem dX13_codeWord_30 : decode cX13_codeWord 30 = .ok (.invokevirtual 192, 3) := by decide +kernel
theorem dX13_codeWord_33 : decode cX13_codeWord 33 = .ok (.invokestatic 178, 3) := by decide +kernel
theorem dX13_codeWord_36 : decode cX13_codeWord 36 = .ok (.invokestatic 178, 3) := by decide +kernel
theorem dX13_codeWord_39 : decode cX13_codeWord 39 = .ok (.ireturn, 1) := by decide +kernel
def pX13_codeWord (g : MT) (h : CT) (this : Nat) : Option Int32 := tg g this 12 (bd (pX13_twoWord g h this) fun x1 => (bd (pX13_oneWord g h this) fun x3 => (bd (pX13_memoryWord g h this) fun x5 => (bd (pX13_maskWord g h this) fun x7 => (bd (pX13_scalarWord g h this) fun x9 => (bd (pX13_plainWord g h this) fun x11 => (some (pJ9_max_7cf53 (pJ9_max_7cf53 (pJ9_max_7cf53 x1 x3) (pJ9_max_7cf53 x5 x7)) (pJ9_max_7cf53 x9 x11)))))))))
set_option maxRecDepth 10000 in
set_option maxHeartbeats 4000000 in
theorem pX13_codeWord_ok (G : Gx) (dk : Nat) (hK : 2 ≤ dk) {g : MT} {h : CT} {this : Nat} {r0 : Int32} (hf : pX13_codeWord g h this = some r0) : Ctr G dk yX13_codeWord cX13_codeWord 1 (some .int) [va_rf (some this)] g h (some (.int r0)) g h := by
  refine Ctr.ofZ (lv := [(0, va_rf (some this))]) (by decide +kernel) (by simp [cat_i, cat_l, cat_d, cat_rf]) rfl fun X Z => ?_
  unfold pX13_codeWord at hf
  obtain ⟨t0, hf⟩ := tg_i hf
  refine J_aload_n Z.1 0 dX13_codeWord_0 rfl rfl ?_
  obtain ⟨x1, q2, hf⟩ := bd_i hf
  refine J_callV (ci := 11) (as := []) (rest := []) (sy := [.int x1]) Z.1 dX13_codeWord_1 cw_X13_171 (pX13_twoWord_ok G (dk - 1) (by omega) q2) rfl rfl t0 (zG Z) rfl (by decide) (zF Z (by omega)) (zO Z (by omega) (by decide)) (zM _) Z.2.1 Z.2.1 rfl rfl ?_
  refine J_aload_n Z.1 0 dX13_codeWord_4 rfl rfl ?_
  obtain ⟨x3, q4, hf⟩ := bd_i hf
  refine J_callV (ci := 11) (as := []) (rest := [.int x1]) (sy := [.int x3, .int x1]) Z.1 dX13_codeWord_5 cw_X13_175 (pX13_oneWord_ok G (dk - 1) (by omega) q4) rfl rfl t0 (zG Z) rfl (by simp [cat_i, cat_l, cat_d, cat_rf]) (zF Z (by omega)) (zO Z (by omega) (by decide)) (zM _) Z.2.1 Z.2.1 rfl rfl ?_
  refine J_callS (as := [.int x1, .int x3]) (rest := []) (sy := [.int (pJ9_max_7cf53 x1 x3)]) Z.1 dX13_codeWord_8 cw_X13_178 (pJ9_max_7cf53_ok G (dk - 1) (by omega) g h x1 x3) (zG Z) rfl (by decide) (zF Z (by omega)) (zO Z (by omega) (by decide)) (zM _) Z.2.1 Z.2.1 rfl rfl ?_
  refine J_aload_n Z.1 0 dX13_codeWord_11 rfl rfl ?_
  obtain ⟨x5, q6, hf⟩ := bd_i hf
  refine J_callV (ci := 11) (as := []) (rest := [.int (pJ9_max_7cf53 x1 x3)]) (sy := [.int x5, .int (pJ9_max_7cf53 x1 x3)]) Z.1 dX13_codeWord_12 cw_X13_183 (pX13_memoryWord_ok G (dk - 1) (by omega) q6) rfl rfl t0 (zG Z) rfl (by simp [cat_i, cat_l, cat_d, cat_rf]) (zF Z (by omega)) (zO Z (by omega) (by decide)) (zM _) Z.2.1 Z.2.1 rfl rfl ?_
  refine J_aload_n Z.1 0 dX13_codeWord_15 rfl rfl ?_
  obtain ⟨x7, q8, hf⟩ := bd_i hf
  refine J_callV (ci := 11) (as := []) (rest := [.int x5, .int (pJ9_max_7cf53 x1 x3)]) (sy := [.int x7, .int x5, .int (pJ9_max_7cf53 x1 x3)]) Z.1 dX13_codeWord_16 cw_X13_186 (pX13_maskWord_ok G (dk - 1) (by omega) q8) rfl rfl t0 (zG Z) rfl (by simp [cat_i, cat_l, cat_d, cat_rf]) (zF Z (by omega)) (zO Z (by omega) (by decide)) (zM _) Z.2.1 Z.2.1 rfl rfl ?_
  refine J_callS (as := [.int x5, .int x7]) (rest := [.int (pJ9_max_7cf53 x1 x3)]) (sy := [.int (pJ9_max_7cf53 x5 x7), .int (pJ9_max_7cf53 x1 x3)]) Z.1 dX13_codeWord_19 cw_X13_178 (pJ9_max_7cf53_ok G (dk - 1) (by omega) g h x5 x7) (zG Z) rfl (by simp [cat_i, cat_l, cat_d, cat_rf]) (zF Z (by omega)) (zO Z (by omega) (by decide)) (zM _) Z.2.1 Z.2.1 rfl rfl ?_
  refine J_callS (as := [.int (pJ9_max_7cf53 x1 x3), .int (pJ9_max_7cf53 x5 x7)]) (rest := []) (sy := [.int (pJ9_max_7cf53 (pJ9_max_7cf53 x1 x3) (pJ9_max_7cf53 x5 x7))]) Z.1 dX13_codeWord_22 cw_X13_178 (pJ9_max_7cf53_ok G (dk - 1) (by omega) g h (pJ9_max_7cf53 x1 x3) (pJ9_max_7cf53 x5 x7)) (zG Z) rfl (by decide) (zF Z (by omega)) (zO Z (by omega) (by decide)) (zM _) Z.2.1 Z.2.1 rfl rfl ?_
  refine J_aload_n Z.1 0 dX13_codeWord_25 rfl rfl ?_
  obtain ⟨x9, q10, hf⟩ := bd_i hf
  refine J_callV (ci := 11) (as := []) (rest := [.int (pJ9_max_7cf53 (pJ9_max_7cf53 x1 x3) (pJ9_max_7cf53 x5 x7))]) (sy := [.int x9, .int (pJ9_max_7cf53 (pJ9_max_7cf53 x1 x3) (pJ9_max_7cf53 x5 x7))]) Z.1 dX13_codeWord_26 cw_X13_189 (pX13_scalarWord_ok G (dk - 1) (by omega) q10) rfl rfl t0 (zG Z) rfl (by simp [cat_i, cat_l, cat_d, cat_rf]) (zF Z (by omega)) (zO Z (by omega) (by decide)) (zM _) Z.2.1 Z.2.1 rfl rfl ?_
  refine J_aload_n Z.1 0 dX13_codeWord_29 rfl rfl ?_
  obtain ⟨x11, q12, hf⟩ := bd_i hf
  refine J_callV (ci := 11) (as := []) (rest := [.int x9, .int (pJ9_max_7cf53 (pJ9_max_7cf53 x1 x3) (pJ9_max_7cf53 x5 x7))]) (sy := [.int x11, .int x9, .int (pJ9_max_7cf53 (pJ9_max_7cf53 x1 x3) (pJ9_max_7cf53 x5 x7))]) Z.1 dX13_codeWord_30 cw_X13_192 (pX13_plainWord_ok G (dk - 1) (by omega) q12) rfl rfl t0 (zG Z) rfl (by simp [cat_i, cat_l, cat_d, cat_rf]) (zF Z (by omega)) (zO Z (by omega) (by decide)) (zM _) Z.2.1 Z.2.1 rfl rfl ?_
  refine J_callS (as := [.int x9, .int x11]) (rest := [.int (pJ9_max_7cf53 (pJ9_max_7cf53 x1 x3) (pJ9_max_7cf53 x5 x7))]) (sy := [.int (pJ9_max_7cf53 x9 x11), .int (pJ9_max_7cf53 (pJ9_max_7cf53 x1 x3) (pJ9_max_7cf53 x5 x7))]) Z.1 dX13_codeWord_33 cw_X13_178 (pJ9_max_7cf53_ok G (dk - 1) (by omega) g h x9 x11) (zG Z) rfl (by simp [cat_i, cat_l, cat_d, cat_rf]) (zF Z (by omega)) (zO Z (by omega) (by decide)) (zM _) Z.2.1 Z.2.1 rfl rfl ?_
  refine J_callS (as := [.int (pJ9_max_7cf53 (pJ9_max_7cf53 x1 x3) (pJ9_max_7cf53 x5 x7)), .int (pJ9_max_7cf53 x9 x11)]) (rest := []) (sy := [.int (pJ9_max_7cf53 (pJ9_max_7cf53 (pJ9_max_7cf53 x1 x3) (pJ9_max_7cf53 x5 x7)) (pJ9_max_7cf53 x9 x11))]) Z.1 dX13_codeWord_36 cw_X13_178 (pJ9_max_7cf53_ok G (dk - 1) (by omega) g h (pJ9_max_7cf53 (pJ9_max_7cf53 x1 x3) (pJ9_max_7cf53 x5 x7)) (pJ9_max_7cf53 x9 x11)) (zG Z) rfl (by decide) (zF Z (by omega)) (zO Z (by omega) (by decide)) (zM _) Z.2.1 Z.2.1 rfl rfl ?_
  cases hf
  exact J_iret Z.1 Z.2.2.2.2.2 dX13_codeWord_39
theorem dX13_fail_0 : decode cX13_fail 0 = .ok (.aload_n 0, 1) := by decide +kernel
theorem dX13_fail_1 : decode cX13_fail 1 = .ok (.getfield 195, 3) := by decide +kernel
theorem dX13_fail_4 : decode cX13_fail 4 = .ok (.ifCond .le 4, 3) := by decide +kernel
theorem dX13_fail_7 : decode cX13_fail 7 = .ok (.return_, 1) := by decide +kernel
theorem dX13_fail_8 : decode cX13_fail 8 = .ok (.aload_n 0, 1) := by decide +kernel
theorem dX13_fail_9 : decode cX13_fail 9 = .ok (.iload_n 1, 1) := by decide +kernel
theorem dX13_fail_10 : decode cX13_fail 10 = .ok (.putfield 195, 3) := by decide +kernel
theorem dX13_fail_13 : decode cX13_fail 13 = .ok (.aload_n 0, 1) := by decide +kernel
theorem dX13_fail_14 : decode cX13_fail 14 = .ok (.iload_n 2, 1) := by decide +kernel
theorem dX13_fail_15 : decode cX13_fail 15 = .ok (.putfield 198, 3) := by decide +kernel
theorem dX13_fail_18 : decode cX13_fail 18 = .ok (.return_, 1) := by decide +kernel
def pX13_fail (g : MT) (h : CT) (this : Nat) (p1 : Int32) (p2 : Int32) : Option CT := tg g this 12 (if (hI h this 12) ≤ 0 then lt (sI h this 12 p1) fun h2 => (lt (sI h2 this 13 p2) fun h3 => (some h3)) else some h)
set_option maxRecDepth 10000 in
set_option maxHeartbeats 4000000 in
theorem pX13_fail_ok (G : Gx) (dk : Nat) (hK : 0 ≤ dk) {g : MT} {h h0 : CT} {this : Nat} {p1 : Int32} {p2 : Int32} (hf : pX13_fail g h this p1 p2 = some h0) : Ctr G dk yX13_fail cX13_fail 3 none [va_rf (some this), .int p1, .int p2] g h none g h0 := by
  refine Ctr.ofZ (lv := [(0, va_rf (some this)), (1, .int p1), (2, .int p2)]) (by decide +kernel) (by simp [cat_i, cat_l, cat_d, cat_rf]) rfl fun X Z => ?_
  unfold pX13_fail at hf
  obtain ⟨t0, hf⟩ := tg_i hf
  refine J_aload_n Z.1 0 dX13_fail_0 rfl rfl ?_
  refine J_get (v := .int (hI h this 12)) Z.1 dX13_fail_1 fl_X13_195 t0 rfl ?_
  refine J_if_le Z.1 8 dX13_fail_4 (by decide) (fun c1 => ?_) (fun c1 => ?_)
  · rw [if_pos c1] at hf
    refine J_aload_n Z.1 0 dX13_fail_8 rfl rfl ?_
    refine J_iload_n Z.1 1 dX13_fail_9 rfl rfl ?_
    refine J_putI Z.1 dX13_fail_10 fl_X13_195 (fun q => by cases q) t0 rfl rfl (congrArg Value.int (hI_s _ _ _ _)) ?_
    refine J_th (fun h2 eh2 => ?_)
    replace hf := lt_i hf h2 eh2
    refine J_aload_n Z.1 0 dX13_fail_13 rfl rfl ?_
    refine J_iload_n Z.1 2 dX13_fail_14 rfl rfl ?_
    refine J_putI Z.1 dX13_fail_15 fl_X13_198 (fun q => by cases q) t0 rfl rfl (congrArg Value.int (hI_s _ _ _ _)) ?_
    refine J_th (fun h3 eh3 => ?_)
    replace hf := lt_i hf h3 eh3
    cases hf
    exact J_vret Z.1 Z.2.2.2.2.2 dX13_fail_18
  · rw [if_neg c1] at hf
    cases hf
    exact J_vret Z.1 Z.2.2.2.2.2 dX13_fail_7
theorem dX13_amiss_0 : decode cX13_amiss 0 = .ok (.aload_n 0, 1) := by decide +kernel
theorem dX13_amiss_1 : decode cX13_amiss 1 = .ok (.aload_n 0, 1) := by decide +kernel
theorem dX13_amiss_2 : decode cX13_amiss 2 = .ok (.getfield 142, 3) := by decide +kernel
theorem dX13_amiss_5 : decode cX13_amiss 5 = .ok (.iconst 4, 1) := by decide +kernel
theorem dX13_amiss_6 : decode cX13_amiss 6 = .ok (.if_icmp .ne 7, 3) := by decide +kernel
theorem dX13_amiss_9 : decode cX13_amiss 9 = .ok (.iconst 1, 1) := by decide +kernel
theorem dX13_amiss_10 : decode cX13_amiss 10 = .ok (.goto 4, 3) := by decide +kernel
theorem dX13_amiss_13 : decode cX13_amiss 13 = .ok (.iconst 2, 1) := by decide +kernel
theorem dX13_amiss_14 : decode cX13_amiss 14 = .ok (.aload_n 0, 1) := by decide +kernel
theorem dX13_amiss_15 : decode cX13_amiss 15 = .ok (.getfield 136, 3) := by decide +kernel
theorem dX13_amiss_18 : decode cX13_amiss 18 = .ok (.invokevirtual 201, 3) := by decide +kernel
theorem dX13_amiss_21 : decode cX13_amiss 21 = .ok (.return_, 1) := by decide +kernel
def pX13_amiss_b14 (g : MT) (this : Nat) (s0 : Nat) (s1 : Int32) (h : CT) : Option CT := tg g s0 12 (bd (pX13_fail g h s0 s1 (hI h this 15)) fun h2 => (some h2))
set_option maxRecDepth 10000 in
set_option maxHeartbeats 4000000 in
theorem pX13_amiss_b14_ok {X : Cx} {G : Gx} {dk : Nat} {g : MT} {h0 : CT} {this : Nat} (Z : Zx X G cX13_amiss RX13 1 dk none none g h0) (hK : 1 ≤ dk) (t0 : gT g this = 12) (s0 : Nat) (s1 : Int32) (h : CT) (hf : pX13_amiss_b14 g this s0 s1 h = some h0) : J X g h 14 [(0, va_rf (some this))] [.int s1, va_rf (some s0)] := by
  unfold pX13_amiss_b14 at hf
  refine J_aload_n Z.1 0 dX13_amiss_14 rfl rfl ?_
  refine J_get (v := .int (hI h this 15)) Z.1 dX13_amiss_15 fl_X13_136 t0 rfl ?_
  obtain ⟨t1, hf⟩ := tg_i hf
  obtain ⟨h2, q3, hf⟩ := bd_i hf
  refine J_callV (ci := 11) (as := [.int s1, .int (hI h this 15)]) (rest := []) (sy := []) Z.1 dX13_amiss_18 cw_X13_201 (pX13_fail_ok G (dk - 1) (by omega) q3) rfl rfl t1 (zG Z) rfl (by decide) (zF Z (by omega)) (zO Z (by omega) (by decide)) (zM _) Z.2.1 Z.2.1 rfl rfl ?_
  cases hf
  exact J_vret Z.1 Z.2.2.2.2.2 dX13_amiss_21
def pX13_amiss (g : MT) (h : CT) (this : Nat) : Option CT := tg g this 12 (if (hI h this 14) = 4 then pX13_amiss_b14 g this  this 1 h else pX13_amiss_b14 g this  this 2 h)
set_option maxRecDepth 10000 in
set_option maxHeartbeats 4000000 in
theorem pX13_amiss_ok (G : Gx) (dk : Nat) (hK : 1 ≤ dk) {g : MT} {h h0 : CT} {this : Nat} (hf : pX13_amiss g h this = some h0) : Ctr G dk yX13_amiss cX13_amiss 1 none [va_rf (some this)] g h none g h0 := by
  refine Ctr.ofZ (lv := [(0, va_rf (some this))]) (by decide +kernel) (by simp [cat_i, cat_l, cat_d, cat_rf]) rfl fun X Z => ?_
  unfold pX13_amiss at hf
  obtain ⟨t0, hf⟩ := tg_i hf
  refine J_aload_n Z.1 0 dX13_amiss_0 rfl rfl ?_
  refine J_aload_n Z.1 0 dX13_amiss_1 rfl rfl ?_
  refine J_get (v := .int (hI h this 14)) Z.1 dX13_amiss_2 fl_X13_142 t0 rfl ?_
  refine J_iconst Z.1 (v := 4) (by decide) dX13_amiss_5 ?_
  refine J_icmp_ne Z.1 13 dX13_amiss_6 (by decide) (fun c1 => ?_) (fun c1 => ?_)
  · rw [if_neg c1] at hf
    refine J_iconst Z.1 (v := 2) (by decide) dX13_amiss_13 ?_
    exact pX13_amiss_b14_ok Z hK t0  _ _ _ hf
  · rw [if_pos c1] at hf
    refine J_iconst Z.1 (v := 1) (by decide) dX13_amiss_9 ?_
    refine J_goto Z.1 14 dX13_amiss_10 (by decide) ?_
    exact pX13_amiss_b14_ok Z hK t0  _ _ _ hf
theorem dX13_must_0 : decode cX13_must 0 = .ok (.aload_n 0, 1) := by decide +kernel
theorem dX13_must_1 : decode cX13_must 1 = .ok (.getfield 195, 3) := by decide +kernel
theorem dX13_must_4 : decode cX13_must 4 = .ok (.ifCond .le 4, 3) := by decide +kernel
theorem dX13_must_7 : decode cX13_must 7 = .ok (.return_, 1) := by decide +kernel
theorem dX13_must_8 : decode cX13_must 8 = .ok (.iload_n 1, 1) := by decide +kernel
theorem dX13_must_9 : decode cX13_must 9 = .ok (.ifCond .eq 10, 3) := by decide +kernel
theorem dX13_must_12 : decode cX13_must 12 = .ok (.aload_n 0, 1) := by decide +kernel
theorem dX13_must_13 : decode cX13_must 13 = .ok (.invokevirtual 205, 3) := by decide +kernel
theorem dX13_must_16 : decode cX13_must 16 = .ok (.goto 7, 3) := by decide +kernel
theorem dX13_must_19 : decode cX13_must 19 = .ok (.aload_n 0, 1) := by decide +kernel
theorem dX13_must_20 : decode cX13_must 20 = .ok (.invokevirtual 208, 3) := by decide +kernel
theorem dX13_must_23 : decode cX13_must 23 = .ok (.return_, 1) := by decide +kernel
def pX13_must (g : MT) (h : CT) (this : Nat) (p1 : Int32) : Option CT := tg g this 12 (if (hI h this 12) ≤ 0 then if p1 = 0 then bd (pX13_amiss g h this) fun h3 => (some h3) else bd (pX13_advance g h this) fun h5 => (some h5) else some h)
set_option maxRecDepth 10000 in
set_option maxHeartbeats 4000000 in
theorem pX13_must_ok (G : Gx) (dk : Nat) (hK : 2 ≤ dk) {g : MT} {h h0 : CT} {this : Nat} {p1 : Int32} (hf : pX13_must g h this p1 = some h0) : Ctr G dk yX13_must cX13_must 2 none [va_rf (some this), .int p1] g h none g h0 := by
  refine Ctr.ofZ (lv := [(0, va_rf (some this)), (1, .int p1)]) (by decide +kernel) (by simp [cat_i, cat_l, cat_d, cat_rf]) rfl fun X Z => ?_
  unfold pX13_must at hf
  obtain ⟨t0, hf⟩ := tg_i hf
  refine J_aload_n Z.1 0 dX13_must_0 rfl rfl ?_
  refine J_get (v := .int (hI h this 12)) Z.1 dX13_must_1 fl_X13_195 t0 rfl ?_
  refine J_if_le Z.1 8 dX13_must_4 (by decide) (fun c1 => ?_) (fun c1 => ?_)
  · rw [if_pos c1] at hf
    refine J_iload_n Z.1 1 dX13_must_8 rfl rfl ?_
    refine J_if_eq Z.1 19 dX13_must_9 (by decide) (fun c2 => ?_) (fun c2 => ?_)
    · rw [if_pos c2] at hf
      refine J_aload_n Z.1 0 dX13_must_19 rfl rfl ?_
      obtain ⟨h3, q4, hf⟩ := bd_i hf
      refine J_callV (ci := 11) (as := []) (rest := []) (sy := []) Z.1 dX13_must_20 cw_X13_208 (pX13_amiss_ok G (dk - 1) (by omega) q4) rfl rfl t0 (zG Z) rfl (by decide) (zF Z (by omega)) (zO Z (by omega) (by decide)) (zM _) Z.2.1 Z.2.1 rfl rfl ?_
      cases hf
      exact J_vret Z.1 Z.2.2.2.2.2 dX13_must_23
    · rw [if_neg c2] at hf
      refine J_aload_n Z.1 0 dX13_must_12 rfl rfl ?_
      obtain ⟨h5, q6, hf⟩ := bd_i hf
      refine J_callV (ci := 11) (as := []) (rest := []) (sy := []) Z.1 dX13_must_13 cw_X13_205 (pX13_advance_ok G (dk - 1) (by omega) q6) rfl rfl t0 (zG Z) rfl (by decide) (zF Z (by omega)) (zO Z (by omega) (by decide)) (zM _) Z.2.1 Z.2.1 rfl rfl ?_
      refine J_goto Z.1 23 dX13_must_16 (by decide) ?_
      cases hf
      exact J_vret Z.1 Z.2.2.2.2.2 dX13_must_23
  · rw [if_neg c1] at hf
    cases hf
    exact J_vret Z.1 Z.2.2.2.2.2 dX13_must_7
theorem dX13_countOf_0 : decode cX13_countOf 0 = .ok (.aload_n 0, 1) := by decide +kernel
theorem dX13_countOf_1 : decode cX13_countOf 1 = .ok (.getfield 195, 3) := by decide +kernel
theorem dX13_countOf_4 : decode cX13_countOf 4 = .ok (.ifCond .ne 15, 3) := by decide +kernel
theorem dX13_countOf_7 : decode cX13_countOf 7 = .ok (.aload_n 0, 1) := by decide +kernel
theorem dX13_countOf_8 : decode cX13_countOf 8 = .ok (.getfield 142, 3) := by decide +kernel
theorem dX13_countOf_11 : decode cX13_countOf 11 = .ok (.iconst 2, 1) := by decide +kernel
theorem dX13_countOf_12 : decode cX13_countOf 12 = .ok (.if_icmp .eq 7, 3) := by decide +kernel
theorem dX13_countOf_15 : decode cX13_countOf 15 = .ok (.aload_n 0, 1) := by decide +kernel
theorem dX13_countOf_16 : decode cX13_countOf 16 = .ok (.invokevirtual 208, 3) := by decide +kernel
theorem dX13_countOf_19 : decode cX13_countOf 19 = .ok (.aload_n 0, 1) := by decide +kernel
theorem dX13_countOf_20 : decode cX13_countOf 20 = .ok (.getfield 195, 3) := by decide +kernel
theorem dX13_countOf_23 : decode cX13_countOf 23 = .ok (.ifCond .ne 27, 3) := by decide +kernel
theorem dX13_countOf_26 : decode cX13_countOf 26 = .ok (.aload_n 0, 1) := by decide +kernel
theorem dX13_countOf_27 : decode cX13_countOf 27 = .ok (.getfield 158, 3) := by decide +kernel
theorem dX13_countOf_30 : decode cX13_countOf 30 = .ok (.i2l, 1) := by decide +kernel
theorem dX13_countOf_31 : decode cX13_countOf 31 = .ok (.iload_n 1, 1) := by decide +kernel
theorem dX13_countOf_32 : decode cX13_countOf 32 = .ok (.i2l, 1) := by decide +kernel
theorem dX13_countOf_33 : decode cX13_countOf 33 = .ok (.iload_n 2, 1) := by decide +kernel
theorem dX13_countOf_34 : decode cX13_countOf 34 = .ok (.i2l, 1) := by decide +kernel
theorem dX13_countOf_35 : decode cX13_countOf 35 = .ok (.invokestatic 104, 3) := by decide +kernel
theorem dX13_countOf_38 : decode cX13_countOf 38 = .ok (.ifCond .ne 12, 3) := by decide +kernel
theorem dX13_countOf_41 : decode cX13_countOf 41 = .ok (.aload_n 0, 1) := by decide +kernel
theorem dX13_countOf_42 : decode cX13_countOf 42 = .ok (.iconst 4, 1) := by decide +kernel
theorem dX13_countOf_43 : decode cX13_countOf 43 = .ok (.aload_n 0, 1) := by decide +kernel
theorem dX13_countOf_44 : decode cX13_countOf 44 = .ok (.getfield 136, 3) := by decide +kernel
theorem dX13_countOf_47 : decode cX13_countOf 47 = .ok (.invokevirtual 201, 3) := by decide +kernel
theorem dX13_countOf_50 : decode cX13_countOf 50 = .ok (.aload_n 0, 1) := by decide +kernel
theorem dX13_countOf_51 : decode cX13_countOf 51 = .ok (.getfield 195, 3) := by decide +kernel
theorem dX13_countOf_54 : decode cX13_countOf 54 = .ok (.ifCond .le 5, 3) := by decide +kernel
theorem dX13_countOf_57 : decode cX13_countOf 57 = .ok (.iconst 0, 1) := by decide +kernel
theorem dX13_countOf_58 : decode cX13_countOf 58 = .ok (.ireturn, 1) := by decide +kernel
theorem dX13_countOf_59 : decode cX13_countOf 59 = .ok (.aload_n 0, 1) := by decide +kernel
theorem dX13_countOf_60 : decode cX13_countOf 60 = .ok (.getfield 158, 3) := by decide +kernel
theorem dX13_countOf_63 : decode cX13_countOf 63 = .ok (.istore_n 3, 1) := by decide +kernel
theorem dX13_countOf_64 : decode cX13_countOf 64 = .ok (.aload_n 0, 1) := by decide +kernel
theorem dX13_countOf_65 : decode cX13_countOf 65 = .ok (.invokevirtual 205, 3) := by decide +kernel
theorem dX13_countOf_68 : decode cX13_countOf 68 = .ok (.iload_n 3, 1) := by decide +kernel
theorem dX13_countOf_69 : decode cX13_countOf 69 = .ok (.ireturn, 1) := by decide +kernel
def pX13_countOf_b50 (g : MT) (this : Nat) (p1 : Int32) (p2 : Int32) (h : CT) : Option ((Int32) × CT) := if (hI h this 12) ≤ 0 then lt (hI h this 17) fun x2 => (bd (pX13_advance g h this) fun h3 => (some (x2, h3))) else some (0, h)
set_option maxRecDepth 10000 in
set_option maxHeartbeats 4000000 in
theorem pX13_countOf_b50_ok {X : Cx} {G : Gx} {dk : Nat} {g : MT} {r0 : Int32} {h0 : CT} {this : Nat} {p1 : Int32} {p2 : Int32} (Z : Zx X G cX13_countOf RX13 4 dk (some .int) (some (.int r0)) g h0) (hK : 2 ≤ dk) (t0 : gT g this = 12) (h : CT) (hf : pX13_countOf_b50 g this p1 p2 h = some (r0, h0)) : J X g h 50 [(0, va_rf (some this))] [] := by
  unfold pX13_countOf_b50 at hf
  refine J_aload_n Z.1 0 dX13_countOf_50 rfl rfl ?_
  refine J_get (v := .int (hI h this 12)) Z.1 dX13_countOf_51 fl_X13_195 t0 rfl ?_
  refine J_if_le Z.1 59 dX13_countOf_54 (by decide) (fun c1 => ?_) (fun c1 => ?_)
  · rw [if_pos c1] at hf
    refine J_aload_n Z.1 0 dX13_countOf_59 rfl rfl ?_
    refine J_get (v := .int (hI h this 17)) Z.1 dX13_countOf_60 fl_X13_158 t0 rfl ?_
    refine J_ti (fun x2 ex2 => ?_)
    replace hf := lt_i hf x2 ex2
    refine J_istore_n Z.1 (lv2 := [(3, .int x2), (0, va_rf (some this))]) dX13_countOf_63 rfl (zL Z (by decide)) rfl ?_
    refine J_aload_n Z.1 1 dX13_countOf_64 rfl rfl ?_
    obtain ⟨h3, q4, hf⟩ := bd_i hf
    refine J_callV (ci := 11) (as := []) (rest := []) (sy := []) Z.1 dX13_countOf_65 cw_X13_205 (pX13_advance_ok G (dk - 1) (by omega) q4) rfl rfl t0 (zG Z) rfl (by decide) (zF Z (by omega)) (zO Z (by omega) (by decide)) (zM _) Z.2.1 Z.2.1 rfl rfl ?_
    refine J_iload_n Z.1 0 dX13_countOf_68 rfl rfl ?_
    cases hf
    exact J_iret Z.1 Z.2.2.2.2.2 dX13_countOf_69
  · rw [if_neg c1] at hf
    refine J_iconst Z.1 (v := 0) (by decide) dX13_countOf_57 ?_
    cases hf
    exact J_iret Z.1 Z.2.2.2.2.2 dX13_countOf_58
def pX13_countOf_b19 (g : MT) (this : Nat) (p1 : Int32) (p2 : Int32) (h : CT) : Option ((Int32) × CT) := if (hI h this 12) = 0 then if (pX13_isIn (Int32.toInt64 (hI h this 17)) (Int32.toInt64 p1) (Int32.toInt64 p2)) = 0 then bd (pX13_fail g h this 4 (hI h this 15)) fun h3 => (pX13_countOf_b50 g this p1 p2  h3) else pX13_countOf_b50 g this p1 p2  h else pX13_countOf_b50 g this p1 p2  h
set_option maxRecDepth 10000 in
set_option maxHeartbeats 4000000 in
theorem pX13_countOf_b19_ok {X : Cx} {G : Gx} {dk : Nat} {g : MT} {r0 : Int32} {h0 : CT} {this : Nat} {p1 : Int32} {p2 : Int32} (Z : Zx X G cX13_countOf RX13 4 dk (some .int) (some (.int r0)) g h0) (hK : 2 ≤ dk) (t0 : gT g this = 12) (h : CT) (hf : pX13_countOf_b19 g this p1 p2 h = some (r0, h0)) : J X g h 19 [(0, va_rf (some this)), (1, .int p1), (2, .int p2)] [] := by
  unfold pX13_countOf_b19 at hf
  refine J_aload_n Z.1 0 dX13_countOf_19 rfl rfl ?_
  refine J_get (v := .int (hI h this 12)) Z.1 dX13_countOf_20 fl_X13_195 t0 rfl ?_
  refine J_if_ne Z.1 50 dX13_countOf_23 (by decide) (fun c1 => ?_) (fun c1 => ?_)
  · rw [if_neg c1] at hf
    refine J_lv [0] rfl ?_
    exact pX13_countOf_b50_ok Z hK t0  _ hf
  · rw [if_pos c1] at hf
    refine J_aload_n Z.1 0 dX13_countOf_26 rfl rfl ?_
    refine J_get (v := .int (hI h this 17)) Z.1 dX13_countOf_27 fl_X13_158 t0 rfl ?_
    refine J_i2l Z.1 dX13_countOf_30 ?_
    refine J_iload_n Z.1 1 dX13_countOf_31 rfl rfl ?_
    refine J_i2l Z.1 dX13_countOf_32 ?_
    refine J_iload_n Z.1 2 dX13_countOf_33 rfl rfl ?_
    refine J_i2l Z.1 dX13_countOf_34 ?_
    refine J_callS (as := [.long (Int32.toInt64 (hI h this 17)), .long (Int32.toInt64 p1), .long (Int32.toInt64 p2)]) (rest := []) (sy := [.int (pX13_isIn (Int32.toInt64 (hI h this 17)) (Int32.toInt64 p1) (Int32.toInt64 p2))]) Z.1 dX13_countOf_35 cw_X13_104 (pX13_isIn_ok G (dk - 1) (by omega) g h (Int32.toInt64 (hI h this 17)) (Int32.toInt64 p1) (Int32.toInt64 p2)) (zG Z) rfl (by decide) (zF Z (by omega)) (zO Z (by omega) (by decide)) (zM _) Z.2.1 Z.2.1 rfl rfl ?_
    refine J_if_ne Z.1 50 dX13_countOf_38 (by decide) (fun c2 => ?_) (fun c2 => ?_)
    · rw [if_neg c2] at hf
      refine J_lv [0] rfl ?_
      exact pX13_countOf_b50_ok Z hK t0  _ hf
    · rw [if_pos c2] at hf
      refine J_aload_n Z.1 0 dX13_countOf_41 rfl rfl ?_
      refine J_iconst Z.1 (v := 4) (by decide) dX13_countOf_42 ?_
      refine J_aload_n Z.1 0 dX13_countOf_43 rfl rfl ?_
      refine J_get (v := .int (hI h this 15)) Z.1 dX13_countOf_44 fl_X13_136 t0 rfl ?_
      obtain ⟨h3, q4, hf⟩ := bd_i hf
      refine J_callV (ci := 11) (as := [.int 4, .int (hI h this 15)]) (rest := []) (sy := []) Z.1 dX13_countOf_47 cw_X13_201 (pX13_fail_ok G (dk - 1) (by omega) q4) rfl rfl t0 (zG Z) rfl (by decide) (zF Z (by omega)) (zO Z (by omega) (by decide)) (zM _) Z.2.1 Z.2.1 rfl rfl ?_
      refine J_lv [0] rfl ?_
      exact pX13_countOf_b50_ok Z hK t0  _ hf
def pX13_countOf (g : MT) (h : CT) (this : Nat) (p1 : Int32) (p2 : Int32) : Option ((Int32) × CT) := tg g this 12 (if (hI h this 12) = 0 then if (hI h this 14) = 2 then pX13_countOf_b19 g this p1 p2  h else bd (pX13_amiss g h this) fun h3 => (pX13_countOf_b19 g this p1 p2  h3) else pX13_countOf_b19 g this p1 p2  h)
set_option maxRecDepth 10000 in
set_option maxHeartbeats 4000000 in
theorem pX13_countOf_ok (G : Gx) (dk : Nat) (hK : 2 ≤ dk) {g : MT} {h h0 : CT} {this : Nat} {p1 : Int32} {p2 : Int32} {r0 : Int32} (hf : pX13_countOf g h this p1 p2 = some (r0, h0)) : Ctr G dk yX13_countOf cX13_countOf 4 (some .int) [va_rf (some this), .int p1, .int p2] g h (some (.int r0)) g h0 := by
  refine Ctr.ofZ (lv := [(0, va_rf (some this)), (1, .int p1), (2, .int p2)]) (by decide +kernel) (by simp [cat_i, cat_l, cat_d, cat_rf]) rfl fun X Z => ?_
  unfold pX13_countOf at hf
  obtain ⟨t0, hf⟩ := tg_i hf
  refine J_aload_n Z.1 0 dX13_countOf_0 rfl rfl ?_
  refine J_get (v := .int (hI h this 12)) Z.1 dX13_countOf_1 fl_X13_195 t0 rfl ?_
  refine J_if_ne Z.1 19 dX13_countOf_4 (by decide) (fun c1 => ?_) (fun c1 => ?_)
  · rw [if_neg c1] at hf
    exact pX13_countOf_b19_ok Z hK t0  _ hf
  · rw [if_pos c1] at hf
    refine J_aload_n Z.1 0 dX13_countOf_7 rfl rfl ?_
    refine J_get (v := .int (hI h this 14)) Z.1 dX13_countOf_8 fl_X13_142 t0 rfl ?_
    refine J_iconst Z.1 (v := 2) (by decide) dX13_countOf_11 ?_
    refine J_icmp_eq Z.1 19 dX13_countOf_12 (by decide) (fun c2 => ?_) (fun c2 => ?_)
    · rw [if_pos c2] at hf
      exact pX13_countOf_b19_ok Z hK t0  _ hf
    · rw [if_neg c2] at hf
      refine J_aload_n Z.1 0 dX13_countOf_15 rfl rfl ?_
      obtain ⟨h3, q4, hf⟩ := bd_i hf
      refine J_callV (ci := 11) (as := []) (rest := []) (sy := []) Z.1 dX13_countOf_16 cw_X13_208 (pX13_amiss_ok G (dk - 1) (by omega) q4) rfl rfl t0 (zG Z) rfl (by decide) (zF Z (by omega)) (zO Z (by omega) (by decide)) (zM _) Z.2.1 Z.2.1 rfl rfl ?_
      exact pX13_countOf_b19_ok Z hK t0  _ hf
theorem dX13_readRow_0 : decode cX13_readRow 0 = .ok (.aload_n 0, 1) := by decide +kernel
theorem dX13_readRow_1 : decode cX13_readRow 1 = .ok (.getfield 195, 3) := by decide +kernel
theorem dX13_readRow_4 : decode cX13_readRow 4 = .ok (.ifCond .le 7, 3) := by decide +kernel
theorem dX13_readRow_7 : decode cX13_readRow 7 = .ok (.iconst 0, 1) := by decide +kernel
theorem dX13_readRow_8 : decode cX13_readRow 8 = .ok (.goto 11, 3) := by decide +kernel
theorem dX13_readRow_11 : decode cX13_readRow 11 = .ok (.aload_n 0, 1) := by decide +kernel
theorem dX13_readRow_12 : decode cX13_readRow 12 = .ok (.bipush 118, 2) := by decide +kernel
theorem dX13_readRow_14 : decode cX13_readRow 14 = .ok (.bipush 6, 2) := by decide +kernel
theorem dX13_readRow_16 : decode cX13_readRow 16 = .ok (.invokevirtual 211, 3) := by decide +kernel
theorem dX13_readRow_19 : decode cX13_readRow 19 = .ok (.istore_n 1, 1) := by decide +kernel
theorem dX13_readRow_20 : decode cX13_readRow 20 = .ok (.aload_n 0, 1) := by decide +kernel
theorem dX13_readRow_21 : decode cX13_readRow 21 = .ok (.iload_n 1, 1) := by decide +kernel
theorem dX13_readRow_22 : decode cX13_readRow 22 = .ok (.ifCond .lt 7, 3) := by decide +kernel
theorem dX13_readRow_25 : decode cX13_readRow 25 = .ok (.iconst 1, 1) := by decide +kernel
theorem dX13_readRow_26 : decode cX13_readRow 26 = .ok (.goto 4, 3) := by decide +kernel
theorem dX13_readRow_29 : decode cX13_readRow 29 = .ok (.iconst 0, 1) := by decide +kernel
theorem dX13_readRow_30 : decode cX13_readRow 30 = .ok (.invokevirtual 214, 3) := by decide +kernel
theorem dX13_readRow_33 : decode cX13_readRow 33 = .ok (.iconst 0, 1) := by decide +kernel
theorem dX13_readRow_34 : decode cX13_readRow 34 = .ok (.iload_n 1, 1) := by decide +kernel
theorem dX13_readRow_35 : decode cX13_readRow 35 = .ok (.invokestatic 178, 3) := by decide +kernel
theorem dX13_readRow_38 : decode cX13_readRow 38 = .ok (.ireturn, 1) := by decide +kernel
def pX13_readRow_b30 (g : MT) (this : Nat) (l1 : Int32) (s0 : Nat) (s1 : Int32) (h : CT) : Option ((Int32) × CT) := tg g s0 12 (bd (pX13_must g h s0 s1) fun h2 => (some ((pJ9_max_7cf53 0 l1), h2)))
set_option maxRecDepth 10000 in
set_option maxHeartbeats 4000000 in
theorem pX13_readRow_b30_ok {X : Cx} {G : Gx} {dk : Nat} {g : MT} {r0 : Int32} {h0 : CT} {this : Nat} (Z : Zx X G cX13_readRow RX13 2 dk (some .int) (some (.int r0)) g h0) (hK : 3 ≤ dk) (t0 : gT g this = 12) (l1 : Int32) (s0 : Nat) (s1 : Int32) (h : CT) (hf : pX13_readRow_b30 g this l1 s0 s1 h = some (r0, h0)) : J X g h 30 [(1, .int l1)] [.int s1, va_rf (some s0)] := by
  unfold pX13_readRow_b30 at hf
  obtain ⟨t1, hf⟩ := tg_i hf
  obtain ⟨h2, q3, hf⟩ := bd_i hf
  refine J_callV (ci := 11) (as := [.int s1]) (rest := []) (sy := []) Z.1 dX13_readRow_30 cw_X13_214 (pX13_must_ok G (dk - 1) (by omega) q3) rfl rfl t1 (zG Z) rfl (by decide) (zF Z (by omega)) (zO Z (by omega) (by decide)) (zM _) Z.2.1 Z.2.1 rfl rfl ?_
  refine J_iconst Z.1 (v := 0) (by decide) dX13_readRow_33 ?_
  refine J_iload_n Z.1 0 dX13_readRow_34 rfl rfl ?_
  refine J_callS (as := [.int 0, .int l1]) (rest := []) (sy := [.int (pJ9_max_7cf53 0 l1)]) Z.1 dX13_readRow_35 cw_X13_178 (pJ9_max_7cf53_ok G (dk - 1) (by omega) g h2 0 l1) (zG Z) rfl (by decide) (zF Z (by omega)) (zO Z (by omega) (by decide)) (zM _) Z.2.1 Z.2.1 rfl rfl ?_
  cases hf
  exact J_iret Z.1 Z.2.2.2.2.2 dX13_readRow_38
def pX13_readRow_b19 (g : MT) (this : Nat) (s0 : Int32) (h : CT) : Option ((Int32) × CT) := if s0 < 0 then pX13_readRow_b30 g this  s0 this 0 h else pX13_readRow_b30 g this  s0 this 1 h
set_option maxRecDepth 10000 in
set_option maxHeartbeats 4000000 in
theorem pX13_readRow_b19_ok {X : Cx} {G : Gx} {dk : Nat} {g : MT} {r0 : Int32} {h0 : CT} {this : Nat} (Z : Zx X G cX13_readRow RX13 2 dk (some .int) (some (.int r0)) g h0) (hK : 3 ≤ dk) (t0 : gT g this = 12) (s0 : Int32) (h : CT) (hf : pX13_readRow_b19 g this s0 h = some (r0, h0)) : J X g h 19 [(0, va_rf (some this))] [.int s0] := by
  unfold pX13_readRow_b19 at hf
  refine J_istore_n Z.1 (lv2 := [(1, .int s0), (0, va_rf (some this))]) dX13_readRow_19 rfl (zL Z (by decide)) rfl ?_
  refine J_aload_n Z.1 1 dX13_readRow_20 rfl rfl ?_
  refine J_iload_n Z.1 0 dX13_readRow_21 rfl rfl ?_
  refine J_if_lt Z.1 29 dX13_readRow_22 (by decide) (fun c1 => ?_) (fun c1 => ?_)
  · rw [if_pos c1] at hf
    refine J_iconst Z.1 (v := 0) (by decide) dX13_readRow_29 ?_
    refine J_lv [0] rfl ?_
    exact pX13_readRow_b30_ok Z hK t0  _ _ _ _ hf
  · rw [if_neg c1] at hf
    refine J_iconst Z.1 (v := 1) (by decide) dX13_readRow_25 ?_
    refine J_goto Z.1 30 dX13_readRow_26 (by decide) ?_
    refine J_lv [0] rfl ?_
    exact pX13_readRow_b30_ok Z hK t0  _ _ _ _ hf
def pX13_readRow (g : MT) (h : CT) (this : Nat) : Option ((Int32) × CT) := tg g this 12 (if (hI h this 12) ≤ 0 then bd (pX13_lettered g h this 118 6) fun x2 => (pX13_readRow_b19 g this  x2 h) else pX13_readRow_b19 g this  0 h)
set_option maxRecDepth 10000 in
set_option maxHeartbeats 4000000 in
theorem pX13_readRow_ok (G : Gx) (dk : Nat) (hK : 3 ≤ dk) {g : MT} {h h0 : CT} {this : Nat} {r0 : Int32} (hf : pX13_readRow g h this = some (r0, h0)) : Ctr G dk yX13_readRow cX13_readRow 2 (some .int) [va_rf (some this)] g h (some (.int r0)) g h0 := by
  refine Ctr.ofZ (lv := [(0, va_rf (some this))]) (by decide +kernel) (by simp [cat_i, cat_l, cat_d, cat_rf]) rfl fun X Z => ?_
  unfold pX13_readRow at hf
  obtain ⟨t0, hf⟩ := tg_i hf
  refine J_aload_n Z.1 0 dX13_readRow_0 rfl rfl ?_
  refine J_get (v := .int (hI h this 12)) Z.1 dX13_readRow_1 fl_X13_195 t0 rfl ?_
  refine J_if_le Z.1 11 dX13_readRow_4 (by decide) (fun c1 => ?_) (fun c1 => ?_)
  · rw [if_pos c1] at hf
    refine J_aload_n Z.1 0 dX13_readRow_11 rfl rfl ?_
    refine J_bipush Z.1 (v := 118) (by decide) dX13_readRow_12 ?_
    refine J_bipush Z.1 (v := 6) (by decide) dX13_readRow_14 ?_
    obtain ⟨x2, q3, hf⟩ := bd_i hf
    refine J_callV (ci := 11) (as := [.int 118, .int 6]) (rest := []) (sy := [.int x2]) Z.1 dX13_readRow_16 cw_X13_211 (pX13_lettered_ok G (dk - 1) (by omega) q3) rfl rfl t0 (zG Z) rfl (by decide) (zF Z (by omega)) (zO Z (by omega) (by decide)) (zM _) Z.2.1 Z.2.1 rfl rfl ?_
    exact pX13_readRow_b19_ok Z hK t0  _ _ hf
  · rw [if_neg c1] at hf
    refine J_iconst Z.1 (v := 0) (by decide) dX13_readRow_7 ?_
    refine J_goto Z.1 19 dX13_readRow_8 (by decide) ?_
    exact pX13_readRow_b19_ok Z hK t0  _ _ hf
theorem dX13_readScalar_0 : decode cX13_readScalar 0 = .ok (.aload_n 0, 1) := by decide +kernel
theorem dX13_readScalar_1 : decode cX13_readScalar 1 = .ok (.getfield 195, 3) := by decide +kernel
theorem dX13_readScalar_4 : decode cX13_readScalar 4 = .ok (.ifCond .le 7, 3) := by decide +kernel
theorem dX13_readScalar_7 : decode cX13_readScalar 7 = .ok (.iconst 0, 1) := by decide +kernel
theorem dX13_readScalar_8 : decode cX13_readScalar 8 = .ok (.goto 10, 3) := by decide +kernel
theorem dX13_readScalar_11 : decode cX13_readScalar 11 = .ok (.aload_n 0, 1) := by decide +kernel
theorem dX13_readScalar_12 : decode cX13_readScalar 12 = .ok (.bipush 115, 2) := by decide +kernel
theorem dX13_readScalar_14 : decode cX13_readScalar 14 = .ok (.iconst 4, 1) := by decide +kernel
theorem dX13_readScalar_15 : decode cX13_readScalar 15 = .ok (.invokevirtual 211, 3) := by decide +kernel
theorem dX13_readScalar_18 : decode cX13_readScalar 18 = .ok (.istore_n 1, 1) := by decide +kernel
theorem dX13_readScalar_19 : decode cX13_readScalar 19 = .ok (.aload_n 0, 1) := by decide +kernel
theorem dX13_readScalar_20 : decode cX13_readScalar 20 = .ok (.iload_n 1, 1) := by decide +kernel
theorem dX13_readScalar_21 : decode cX13_readScalar 21 = .ok (.ifCond .lt 7, 3) := by decide +kernel
theorem dX13_readScalar_24 : decode cX13_readScalar 24 = .ok (.iconst 1, 1) := by decide +kernel
theorem dX13_readScalar_25 : decode cX13_readScalar 25 = .ok (.goto 4, 3) := by decide +kernel
theorem dX13_readScalar_28 : decode cX13_readScalar 28 = .ok (.iconst 0, 1) := by decide +kernel
theorem dX13_readScalar_29 : decode cX13_readScalar 29 = .ok (.invokevirtual 214, 3) := by decide +kernel
theorem dX13_readScalar_32 : decode cX13_readScalar 32 = .ok (.iconst 0, 1) := by decide +kernel
theorem dX13_readScalar_33 : decode cX13_readScalar 33 = .ok (.iload_n 1, 1) := by decide +kernel
theorem dX13_readScalar_34 : decode cX13_readScalar 34 = .ok (.invokestatic 178, 3) := by decide +kernel
theorem dX13_readScalar_37 : decode cX13_readScalar 37 = .ok (.ireturn, 1) := by decide +kernel
def pX13_readScalar_b29 (g : MT) (this : Nat) (l1 : Int32) (s0 : Nat) (s1 : Int32) (h : CT) : Option ((Int32) × CT) := tg g s0 12 (bd (pX13_must g h s0 s1) fun h2 => (some ((pJ9_max_7cf53 0 l1), h2)))
set_option maxRecDepth 10000 in
set_option maxHeartbeats 4000000 in
theorem pX13_readScalar_b29_ok {X : Cx} {G : Gx} {dk : Nat} {g : MT} {r0 : Int32} {h0 : CT} {this : Nat} (Z : Zx X G cX13_readScalar RX13 2 dk (some .int) (some (.int r0)) g h0) (hK : 3 ≤ dk) (t0 : gT g this = 12) (l1 : Int32) (s0 : Nat) (s1 : Int32) (h : CT) (hf : pX13_readScalar_b29 g this l1 s0 s1 h = some (r0, h0)) : J X g h 29 [(1, .int l1)] [.int s1, va_rf (some s0)] := by
  unfold pX13_readScalar_b29 at hf
  obtain ⟨t1, hf⟩ := tg_i hf
  obtain ⟨h2, q3, hf⟩ := bd_i hf
  refine J_callV (ci := 11) (as := [.int s1]) (rest := []) (sy := []) Z.1 dX13_readScalar_29 cw_X13_214 (pX13_must_ok G (dk - 1) (by omega) q3) rfl rfl t1 (zG Z) rfl (by decide) (zF Z (by omega)) (zO Z (by omega) (by decide)) (zM _) Z.2.1 Z.2.1 rfl rfl ?_
  refine J_iconst Z.1 (v := 0) (by decide) dX13_readScalar_32 ?_
  refine J_iload_n Z.1 0 dX13_readScalar_33 rfl rfl ?_
  refine J_callS (as := [.int 0, .int l1]) (rest := []) (sy := [.int (pJ9_max_7cf53 0 l1)]) Z.1 dX13_readScalar_34 cw_X13_178 (pJ9_max_7cf53_ok G (dk - 1) (by omega) g h2 0 l1) (zG Z) rfl (by decide) (zF Z (by omega)) (zO Z (by omega) (by decide)) (zM _) Z.2.1 Z.2.1 rfl rfl ?_
  cases hf
  exact J_iret Z.1 Z.2.2.2.2.2 dX13_readScalar_37
def pX13_readScalar_b18 (g : MT) (this : Nat) (s0 : Int32) (h : CT) : Option ((Int32) × CT) := if s0 < 0 then pX13_readScalar_b29 g this  s0 this 0 h else pX13_readScalar_b29 g this  s0 this 1 h
set_option maxRecDepth 10000 in
set_option maxHeartbeats 4000000 in
theorem pX13_readScalar_b18_ok {X : Cx} {G : Gx} {dk : Nat} {g : MT} {r0 : Int32} {h0 : CT} {this : Nat} (Z : Zx X G cX13_readScalar RX13 2 dk (some .int) (some (.int r0)) g h0) (hK : 3 ≤ dk) (t0 : gT g this = 12) (s0 : Int32) (h : CT) (hf : pX13_readScalar_b18 g this s0 h = some (r0, h0)) : J X g h 18 [(0, va_rf (some this))] [.int s0] := by
  unfold pX13_readScalar_b18 at hf
  refine J_istore_n Z.1 (lv2 := [(1, .int s0), (0, va_rf (some this))]) dX13_readScalar_18 rfl (zL Z (by decide)) rfl ?_
  refine J_aload_n Z.1 1 dX13_readScalar_19 rfl rfl ?_
  refine J_iload_n Z.1 0 dX13_readScalar_20 rfl rfl ?_
  refine J_if_lt Z.1 28 dX13_readScalar_21 (by decide) (fun c1 => ?_) (fun c1 => ?_)
  · rw [if_pos c1] at hf
    refine J_iconst Z.1 (v := 0) (by decide) dX13_readScalar_28 ?_
    refine J_lv [0] rfl ?_
    exact pX13_readScalar_b29_ok Z hK t0  _ _ _ _ hf
  · rw [if_neg c1] at hf
    refine J_iconst Z.1 (v := 1) (by decide) dX13_readScalar_24 ?_
    refine J_goto Z.1 29 dX13_readScalar_25 (by decide) ?_
    refine J_lv [0] rfl ?_
    exact pX13_readScalar_b29_ok Z hK t0  _ _ _ _ hf
def pX13_readScalar (g : MT) (h : CT) (this : Nat) : Option ((Int32) × CT) := tg g this 12 (if (hI h this 12) ≤ 0 then bd (pX13_lettered g h this 115 4) fun x2 => (pX13_readScalar_b18 g this  x2 h) else pX13_readScalar_b18 g this  0 h)
set_option maxRecDepth 10000 in
set_option maxHeartbeats 4000000 in
theorem pX13_readScalar_ok (G : Gx) (dk : Nat) (hK : 3 ≤ dk) {g : MT} {h h0 : CT} {this : Nat} {r0 : Int32} (hf : pX13_readScalar g h this = some (r0, h0)) : Ctr G dk yX13_readScalar cX13_readScalar 2 (some .int) [va_rf (some this)] g h (some (.int r0)) g h0 := by
  refine Ctr.ofZ (lv := [(0, va_rf (some this))]) (by decide +kernel) (by simp [cat_i, cat_l, cat_d, cat_rf]) rfl fun X Z => ?_
  unfold pX13_readScalar at hf
  obtain ⟨t0, hf⟩ := tg_i hf
  refine J_aload_n Z.1 0 dX13_readScalar_0 rfl rfl ?_
  refine J_get (v := .int (hI h this 12)) Z.1 dX13_readScalar_1 fl_X13_195 t0 rfl ?_
  refine J_if_le Z.1 11 dX13_readScalar_4 (by decide) (fun c1 => ?_) (fun c1 => ?_)
  · rw [if_pos c1] at hf
    refine J_aload_n Z.1 0 dX13_readScalar_11 rfl rfl ?_
    refine J_bipush Z.1 (v := 115) (by decide) dX13_readScalar_12 ?_
    refine J_iconst Z.1 (v := 4) (by decide) dX13_readScalar_14 ?_
    obtain ⟨x2, q3, hf⟩ := bd_i hf
    refine J_callV (ci := 11) (as := [.int 115, .int 4]) (rest := []) (sy := [.int x2]) Z.1 dX13_readScalar_15 cw_X13_211 (pX13_lettered_ok G (dk - 1) (by omega) q3) rfl rfl t0 (zG Z) rfl (by decide) (zF Z (by omega)) (zO Z (by omega) (by decide)) (zM _) Z.2.1 Z.2.1 rfl rfl ?_
    exact pX13_readScalar_b18_ok Z hK t0  _ _ hf
  · rw [if_neg c1] at hf
    refine J_iconst Z.1 (v := 0) (by decide) dX13_readScalar_7 ?_
    refine J_goto Z.1 18 dX13_readScalar_8 (by decide) ?_
    exact pX13_readScalar_b18_ok Z hK t0  _ _ hf
theorem dX13_readAt_0 : decode cX13_readAt 0 = .ok (.aload_n 0, 1) := by decide +kernel
theorem dX13_readAt_1 : decode cX13_readAt 1 = .ok (.aload_n 0, 1) := by decide +kernel
theorem dX13_readAt_2 : decode cX13_readAt 2 = .ok (.invokevirtual 218, 3) := by decide +kernel
theorem dX13_readAt_5 : decode cX13_readAt 5 = .ok (.invokevirtual 214, 3) := by decide +kernel
theorem dX13_readAt_8 : decode cX13_readAt 8 = .ok (.aload_n 0, 1) := by decide +kernel
theorem dX13_readAt_9 : decode cX13_readAt 9 = .ok (.iconst 0, 1) := by decide +kernel
theorem dX13_readAt_10 : decode cX13_readAt 10 = .ok (.bipush 63, 2) := by decide +kernel
theorem dX13_readAt_12 : decode cX13_readAt 12 = .ok (.invokevirtual 222, 3) := by decide +kernel
theorem dX13_readAt_15 : decode cX13_readAt 15 = .ok (.ireturn, 1) := by decide +kernel
def pX13_readAt (g : MT) (h : CT) (this : Nat) : Option ((Int32) × CT) := tg g this 12 (bd (pX13_isAt g h this) fun x1 => (bd (pX13_must g h this x1) fun h3 => (bd2 (pX13_countOf g h3 this 0 63) fun x7 h5 => (some (x7, h5)))))
set_option maxRecDepth 10000 in
set_option maxHeartbeats 4000000 in
theorem pX13_readAt_ok (G : Gx) (dk : Nat) (hK : 3 ≤ dk) {g : MT} {h h0 : CT} {this : Nat} {r0 : Int32} (hf : pX13_readAt g h this = some (r0, h0)) : Ctr G dk yX13_readAt cX13_readAt 1 (some .int) [va_rf (some this)] g h (some (.int r0)) g h0 := by
  refine Ctr.ofZ (lv := [(0, va_rf (some this))]) (by decide +kernel) (by simp [cat_i, cat_l, cat_d, cat_rf]) rfl fun X Z => ?_
  unfold pX13_readAt at hf
  obtain ⟨t0, hf⟩ := tg_i hf
  refine J_aload_n Z.1 0 dX13_readAt_0 rfl rfl ?_
  refine J_aload_n Z.1 0 dX13_readAt_1 rfl rfl ?_
  obtain ⟨x1, q2, hf⟩ := bd_i hf
  refine J_callV (ci := 11) (as := []) (rest := [va_rf (some this)]) (sy := [.int x1, va_rf (some this)]) Z.1 dX13_readAt_2 cw_X13_218 (pX13_isAt_ok G (dk - 1) (by omega) q2) rfl rfl t0 (zG Z) rfl (by simp [cat_i, cat_l, cat_d, cat_rf]) (zF Z (by omega)) (zO Z (by omega) (by decide)) (zM _) Z.2.1 Z.2.1 rfl rfl ?_
  obtain ⟨h3, q4, hf⟩ := bd_i hf
  refine J_callV (ci := 11) (as := [.int x1]) (rest := []) (sy := []) Z.1 dX13_readAt_5 cw_X13_214 (pX13_must_ok G (dk - 1) (by omega) q4) rfl rfl t0 (zG Z) rfl (by decide) (zF Z (by omega)) (zO Z (by omega) (by decide)) (zM _) Z.2.1 Z.2.1 rfl rfl ?_
  refine J_aload_n Z.1 0 dX13_readAt_8 rfl rfl ?_
  refine J_iconst Z.1 (v := 0) (by decide) dX13_readAt_9 ?_
  refine J_bipush Z.1 (v := 63) (by decide) dX13_readAt_10 ?_
  obtain ⟨x7, h5, q6, hf⟩ := bd2_i hf
  refine J_callV (ci := 11) (as := [.int 0, .int 63]) (rest := []) (sy := [.int x7]) Z.1 dX13_readAt_12 cw_X13_222 (pX13_countOf_ok G (dk - 1) (by omega) q6) rfl rfl t0 (zG Z) rfl (by decide) (zF Z (by omega)) (zO Z (by omega) (by decide)) (zM _) Z.2.1 Z.2.1 rfl rfl ?_
  cases hf
  exact J_iret Z.1 Z.2.2.2.2.2 dX13_readAt_15
theorem dX13_lay_0 : decode cX13_lay 0 = .ok (.iconst 3, 1) := by decide +kernel
theorem dX13_lay_1 : decode cX13_lay 1 = .ok (.istore_n 2, 1) := by decide +kernel
theorem dX13_lay_2 : decode cX13_lay 2 = .ok (.iload_n 2, 1) := by decide +kernel
theorem dX13_lay_3 : decode cX13_lay 3 = .ok (.ifCond .lt 35, 3) := by decide +kernel
theorem dX13_lay_6 : decode cX13_lay 6 = .ok (.aload_n 0, 1) := by decide +kernel
theorem dX13_lay_7 : decode cX13_lay 7 = .ok (.getfield 20, 3) := by decide +kernel
theorem dX13_lay_10 : decode cX13_lay 10 = .ok (.aload_n 0, 1) := by decide +kernel
theorem dX13_lay_11 : decode cX13_lay 11 = .ok (.getfield 225, 3) := by decide +kernel
theorem dX13_lay_14 : decode cX13_lay 14 = .ok (.iload_n 1, 1) := by decide +kernel
theorem dX13_lay_15 : decode cX13_lay 15 = .ok (.bipush 8, 2) := by decide +kernel
theorem dX13_lay_17 : decode cX13_lay 17 = .ok (.iload_n 2, 1) := by decide +kernel
theorem dX13_lay_18 : decode cX13_lay 18 = .ok (.imul, 1) := by decide +kernel
theorem dX13_lay_19 : decode cX13_lay 19 = .ok (.ishr, 1) := by decide +kernel
theorem dX13_lay_20 : decode cX13_lay 20 = .ok (.i2b, 1) := by decide +kernel
theorem dX13_lay_21 : decode cX13_lay 21 = .ok (.bastore, 1) := by decide +kernel
theorem dX13_lay_22 : decode cX13_lay 22 = .ok (.aload_n 0, 1) := by decide +kernel
theorem dX13_lay_23 : decode cX13_lay 23 = .ok (.dup, 1) := by decide +kernel
theorem dX13_lay_24 : decode cX13_lay 24 = .ok (.getfield 225, 3) := by decide +kernel
theorem dX13_lay_27 : decode cX13_lay 27 = .ok (.iconst 1, 1) := by decide +kernel
theorem dX13_lay_28 : decode cX13_lay 28 = .ok (.iadd, 1) := by decide +kernel
theorem dX13_lay_29 : decode cX13_lay 29 = .ok (.putfield 225, 3) := by decide +kernel
theorem dX13_lay_32 : decode cX13_lay 32 = .ok (.iinc 2 (-1), 3) := by decide +kernel
theorem dX13_lay_35 : decode cX13_lay 35 = .ok (.goto (-33), 3) := by decide +kernel
theorem dX13_lay_38 : decode cX13_lay 38 = .ok (.return_, 1) := by decide +kernel
def pX13_lay_b2 (g : MT) (this : Nat) (p1 : Int32) (k2 : Int32 → CT → Option CT) (l2 : Int32) (h : CT) : Option CT := if l2 < 0 then some h else lt (hR h this 7) fun r2 => (nn r2 fun a2 => (tg g a2 23 (ix (gL g a2) (hI h this 8) (lt (sI h a2 (Int32.toNatClampNeg (hI h this 8)) (vp_nar .byte (Int8.toInt32 (Int32.toInt8 (p1 >>> ((8 * l2) &&& 31)))))) fun h5 => (lt (sI h5 this 8 ((hI h5 this 8) + 1)) fun h6 => (lt (l2 + (-1)) fun x7 => (k2 x7 h6)))))))
set_option maxRecDepth 10000 in
set_option maxHeartbeats 4000000 in
theorem pX13_lay_b2_ok {X : Cx} {G : Gx} {dk : Nat} {g : MT} {h0 : CT} {this : Nat} {p1 : Int32} {k2 : Int32 → CT → Option CT} (Z : Zx X G cX13_lay RX13 3 dk none none g h0) (hK : 0 ≤ dk) (t0 : gT g this = 12) (hk2 : ∀ (l2 : Int32) (h : CT), k2 l2 h = some h0 → J X g h 2 [(0, va_rf (some this)), (1, .int p1), (2, .int l2)] []) (l2 : Int32) (h : CT) (hf : pX13_lay_b2 g this p1 k2 l2 h = some h0) : J X g h 2 [(0, va_rf (some this)), (1, .int p1), (2, .int l2)] [] := by
  unfold pX13_lay_b2 at hf
  refine J_iload_n Z.1 2 dX13_lay_2 rfl rfl ?_
  refine J_if_lt Z.1 38 dX13_lay_3 (by decide) (fun c1 => ?_) (fun c1 => ?_)
  · rw [if_pos c1] at hf
    cases hf
    exact J_vret Z.1 Z.2.2.2.2.2 dX13_lay_38
  · rw [if_neg c1] at hf
    refine J_aload_n Z.1 0 dX13_lay_6 rfl rfl ?_
    refine J_get (v := va_rf (hR h this 7)) Z.1 dX13_lay_7 fl_X13_20 t0 rfl ?_
    refine J_tr (fun r2 er2 => ?_)
    replace hf := lt_i hf r2 er2
    refine J_aload_n Z.1 0 dX13_lay_10 rfl rfl ?_
    refine J_get (v := .int (hI h this 8)) Z.1 dX13_lay_11 fl_X13_225 t0 rfl ?_
    refine J_iload_n Z.1 1 dX13_lay_14 rfl rfl ?_
    refine J_bipush Z.1 (v := 8) (by decide) dX13_lay_15 ?_
    refine J_iload_n Z.1 2 dX13_lay_17 rfl rfl ?_
    refine J_imul Z.1 dX13_lay_18 ?_
    refine J_ishr Z.1 dX13_lay_19 ?_
    refine J_i2b Z.1 dX13_lay_20 ?_
    obtain ⟨a2, rfl, hf⟩ := nn_i hf
    obtain ⟨t3, hf⟩ := tg_i hf
    obtain ⟨i4, hf⟩ := ix_i hf
    refine J_bastore Z.1 dX13_lay_21 t3 i4 ?_
    refine J_th (fun h5 eh5 => ?_)
    replace hf := lt_i hf h5 eh5
    refine J_aload_n Z.1 0 dX13_lay_22 rfl rfl ?_
    refine J_dup Z.1 dX13_lay_23 rfl ?_
    refine J_get (v := .int (hI h5 this 8)) Z.1 dX13_lay_24 fl_X13_225 t0 rfl ?_
    refine J_iconst Z.1 (v := 1) (by decide) dX13_lay_27 ?_
    refine J_iadd Z.1 dX13_lay_28 ?_
    refine J_putI Z.1 dX13_lay_29 fl_X13_225 (fun q => by cases q) t0 rfl rfl (congrArg Value.int (hI_s _ _ _ _)) ?_
    refine J_th (fun h6 eh6 => ?_)
    replace hf := lt_i hf h6 eh6
    refine J_iinc Z.1 (v := (-1)) (lv2 := [(2, .int (l2 + (-1))), (0, va_rf (some this)), (1, .int p1)]) 2 dX13_lay_32 rfl (by decide) (zL Z (by decide)) rfl ?_
    obtain ⟨x7, ex7⟩ : ∃ z, z = (l2 + (-1)) := ⟨_, rfl⟩
    replace hf := lt_i hf x7 ex7
    rw [← ex7]
    refine J_goto Z.1 2 dX13_lay_35 (by decide) ?_
    refine J_lv [1, 2, 0] rfl ?_
    exact hk2 _ _ hf
def pX13_lay_l2 (g : MT) (this : Nat) (p1 : Int32) : Nat → Int32 → CT → Option CT
  | 0, _, _ => none
  | n + 1, l2, h => pX13_lay_b2 g this p1 (pX13_lay_l2 g this p1 n) l2 h
theorem pX13_lay_l2_ok {X : Cx} {G : Gx} {dk : Nat} {g : MT} {h0 : CT} {this : Nat} {p1 : Int32} (Z : Zx X G cX13_lay RX13 3 dk none none g h0) (hK : 0 ≤ dk) (t0 : gT g this = 12) : ∀ (n : Nat) (l2 : Int32) (h : CT), pX13_lay_l2 g this p1 n l2 h = some h0 → J X g h 2 [(0, va_rf (some this)), (1, .int p1), (2, .int l2)] [] := by
  intro n
  induction n with
  | zero => intro l2 h hf; cases hf
  | succ n ih => intro l2 h hf; exact pX13_lay_b2_ok Z hK t0 ih l2 h hf
def pX13_lay (g : MT) (h : CT) (this : Nat) (p1 : Int32) : Option CT := tg g this 12 (pX13_lay_l2 g this p1  FUEL 3 h)
set_option maxRecDepth 10000 in
set_option maxHeartbeats 4000000 in
theorem pX13_lay_ok (G : Gx) (dk : Nat) (hK : 0 ≤ dk) {g : MT} {h h0 : CT} {this : Nat} {p1 : Int32} (hf : pX13_lay g h this p1 = some h0) : Ctr G dk yX13_lay cX13_lay 3 none [va_rf (some this), .int p1] g h none g h0 := by
  refine Ctr.ofZ (lv := [(0, va_rf (some this)), (1, .int p1)]) (by decide +kernel) (by simp [cat_i, cat_l, cat_d, cat_rf]) rfl fun X Z => ?_
  unfold pX13_lay at hf
  obtain ⟨t0, hf⟩ := tg_i hf
  refine J_iconst Z.1 (v := 3) (by decide) dX13_lay_0 ?_
  refine J_istore_n Z.1 (lv2 := [(2, .int 3), (0, va_rf (some this)), (1, .int p1)]) dX13_lay_1 rfl (zL Z (by decide)) rfl ?_
  refine J_lv [1, 2, 0] rfl ?_
  exact pX13_lay_l2_ok Z hK t0  FUEL _ _ hf
theorem dX13_fault_0 : decode cX13_fault 0 = .ok (.aload_n 0, 1) := by decide +kernel
theorem dX13_fault_1 : decode cX13_fault 1 = .ok (.iconst 0, 1) := by decide +kernel
theorem dX13_fault_2 : decode cX13_fault 2 = .ok (.putfield 71, 3) := by decide +kernel
theorem dX13_fault_5 : decode cX13_fault 5 = .ok (.iload_n 1, 1) := by decide +kernel
theorem dX13_fault_6 : decode cX13_fault 6 = .ok (.ifCond .ne 10, 3) := by decide +kernel
theorem dX13_fault_9 : decode cX13_fault 9 = .ok (.aload_n 0, 1) := by decide +kernel
theorem dX13_fault_10 : decode cX13_fault 10 = .ok (.getfield 24, 3) := by decide +kernel
theorem dX13_fault_13 : decode cX13_fault 13 = .ok (.goto 16, 3) := by decide +kernel
theorem dX13_fault_16 : decode cX13_fault 16 = .ok (.iload_n 1, 1) := by decide +kernel
theorem dX13_fault_17 : decode cX13_fault 17 = .ok (.iconst 1, 1) := by decide +kernel
theorem dX13_fault_18 : decode cX13_fault 18 = .ok (.if_icmp .ne 10, 3) := by decide +kernel
theorem dX13_fault_21 : decode cX13_fault 21 = .ok (.aload_n 0, 1) := by decide +kernel
theorem dX13_fault_22 : decode cX13_fault 22 = .ok (.getfield 28, 3) := by decide +kernel
theorem dX13_fault_25 : decode cX13_fault 25 = .ok (.goto 4, 3) := by decide +kernel
theorem dX13_fault_28 : decode cX13_fault 28 = .ok (.iconst (-1), 1) := by decide +kernel
theorem dX13_fault_29 : decode cX13_fault 29 = .ok (.ireturn, 1) := by decide +kernel
def pX13_fault (g : MT) (h : CT) (this : Nat) (p1 : Int32) : Option ((Int32) × CT) := tg g this 12 (lt (sI h this 1 0) fun h1 => (if p1 = 0 then some ((hI h1 this 10), h1) else if p1 = 1 then some ((hI h1 this 11), h1) else some ((-1), h1)))
set_option maxRecDepth 10000 in
set_option maxHeartbeats 4000000 in
theorem pX13_fault_ok (G : Gx) (dk : Nat) (hK : 0 ≤ dk) {g : MT} {h h0 : CT} {this : Nat} {p1 : Int32} {r0 : Int32} (hf : pX13_fault g h this p1 = some (r0, h0)) : Ctr G dk yX13_fault cX13_fault 2 (some .int) [va_rf (some this), .int p1] g h (some (.int r0)) g h0 := by
  refine Ctr.ofZ (lv := [(0, va_rf (some this)), (1, .int p1)]) (by decide +kernel) (by simp [cat_i, cat_l, cat_d, cat_rf]) rfl fun X Z => ?_
  unfold pX13_fault at hf
  obtain ⟨t0, hf⟩ := tg_i hf
  refine J_aload_n Z.1 0 dX13_fault_0 rfl rfl ?_
  refine J_iconst Z.1 (v := 0) (by decide) dX13_fault_1 ?_
  refine J_putI Z.1 dX13_fault_2 fl_X13_71 (fun q => by cases q) t0 rfl rfl (congrArg Value.int (hI_s _ _ _ _)) ?_
  refine J_th (fun h1 eh1 => ?_)
  replace hf := lt_i hf h1 eh1
  refine J_iload_n Z.1 1 dX13_fault_5 rfl rfl ?_
  refine J_if_ne Z.1 16 dX13_fault_6 (by decide) (fun c2 => ?_) (fun c2 => ?_)
  · rw [if_neg c2] at hf
    refine J_iload_n Z.1 1 dX13_fault_16 rfl rfl ?_
    refine J_iconst Z.1 (v := 1) (by decide) dX13_fault_17 ?_
    refine J_icmp_ne Z.1 28 dX13_fault_18 (by decide) (fun c3 => ?_) (fun c3 => ?_)
    · rw [if_neg c3] at hf
      refine J_iconst Z.1 (v := (-1)) (by decide) dX13_fault_28 ?_
      cases hf
      exact J_iret Z.1 Z.2.2.2.2.2 dX13_fault_29
    · rw [if_pos c3] at hf
      refine J_aload_n Z.1 0 dX13_fault_21 rfl rfl ?_
      refine J_get (v := .int (hI h1 this 11)) Z.1 dX13_fault_22 fl_X13_28 t0 rfl ?_
      refine J_goto Z.1 29 dX13_fault_25 (by decide) ?_
      cases hf
      exact J_iret Z.1 Z.2.2.2.2.2 dX13_fault_29
  · rw [if_pos c2] at hf
    refine J_aload_n Z.1 0 dX13_fault_9 rfl rfl ?_
    refine J_get (v := .int (hI h1 this 10)) Z.1 dX13_fault_10 fl_X13_24 t0 rfl ?_
    refine J_goto Z.1 29 dX13_fault_13 (by decide) ?_
    cases hf
    exact J_iret Z.1 Z.2.2.2.2.2 dX13_fault_29
theorem dX13_readMemory_0 : decode cX13_readMemory 0 = .ok (.aload_n 0, 1) := by decide +kernel
theorem dX13_readMemory_1 : decode cX13_readMemory 1 = .ok (.getfield 31, 3) := by decide +kernel
theorem dX13_readMemory_4 : decode cX13_readMemory 4 = .ok (.iload_n 1, 1) := by decide +kernel
theorem dX13_readMemory_5 : decode cX13_readMemory 5 = .ok (.iconst 1, 1) := by decide +kernel
theorem dX13_readMemory_6 : decode cX13_readMemory 6 = .ok (.iadd, 1) := by decide +kernel
theorem dX13_readMemory_7 : decode cX13_readMemory 7 = .ok (.aload_n 0, 1) := by decide +kernel
theorem dX13_readMemory_8 : decode cX13_readMemory 8 = .ok (.invokevirtual 232, 3) := by decide +kernel
theorem dX13_readMemory_11 : decode cX13_readMemory 11 = .ok (.iastore, 1) := by decide +kernel
theorem dX13_readMemory_12 : decode cX13_readMemory 12 = .ok (.aload_n 0, 1) := by decide +kernel
theorem dX13_readMemory_13 : decode cX13_readMemory 13 = .ok (.getfield 31, 3) := by decide +kernel
theorem dX13_readMemory_16 : decode cX13_readMemory 16 = .ok (.iload_n 1, 1) := by decide +kernel
theorem dX13_readMemory_17 : decode cX13_readMemory 17 = .ok (.iconst 4, 1) := by decide +kernel
theorem dX13_readMemory_18 : decode cX13_readMemory 18 = .ok (.iadd, 1) := by decide +kernel
theorem dX13_readMemory_19 : decode cX13_readMemory 19 = .ok (.aload_n 0, 1) := by decide +kernel
theorem dX13_readMemory_20 : decode cX13_readMemory 20 = .ok (.invokevirtual 235, 3) := by decide +kernel
theorem dX13_readMemory_23 : decode cX13_readMemory 23 = .ok (.iastore, 1) := by decide +kernel
theorem dX13_readMemory_24 : decode cX13_readMemory 24 = .ok (.iload_n 2, 1) := by decide +kernel
theorem dX13_readMemory_25 : decode cX13_readMemory 25 = .ok (.iconst 5, 1) := by decide +kernel
theorem dX13_readMemory_26 : decode cX13_readMemory 26 = .ok (.if_icmp .eq 9, 3) := by decide +kernel
theorem dX13_readMemory_29 : decode cX13_readMemory 29 = .ok (.iload_n 2, 1) := by decide +kernel
theorem dX13_readMemory_30 : decode cX13_readMemory 30 = .ok (.bipush 6, 2) := by decide +kernel
theorem dX13_readMemory_32 : decode cX13_readMemory 32 = .ok (.if_icmp .ne 24, 3) := by decide +kernel
theorem dX13_readMemory_35 : decode cX13_readMemory 35 = .ok (.aload_n 0, 1) := by decide +kernel
theorem dX13_readMemory_36 : decode cX13_readMemory 36 = .ok (.aload_n 0, 1) := by decide +kernel
theorem dX13_readMemory_37 : decode cX13_readMemory 37 = .ok (.invokevirtual 238, 3) := by decide +kernel
theorem dX13_readMemory_40 : decode cX13_readMemory 40 = .ok (.invokevirtual 214, 3) := by decide +kernel
theorem dX13_readMemory_43 : decode cX13_readMemory 43 = .ok (.aload_n 0, 1) := by decide +kernel
theorem dX13_readMemory_44 : decode cX13_readMemory 44 = .ok (.getfield 31, 3) := by decide +kernel
theorem dX13_readMemory_47 : decode cX13_readMemory 47 = .ok (.iload_n 1, 1) := by decide +kernel
theorem dX13_readMemory_48 : decode cX13_readMemory 48 = .ok (.iconst 3, 1) := by decide +kernel
theorem dX13_readMemory_49 : decode cX13_readMemory 49 = .ok (.iadd, 1) := by decide +kernel
theorem dX13_readMemory_50 : decode cX13_readMemory 50 = .ok (.aload_n 0, 1) := by decide +kernel
theorem dX13_readMemory_51 : decode cX13_readMemory 51 = .ok (.invokevirtual 232, 3) := by decide +kernel
theorem dX13_readMemory_54 : decode cX13_readMemory 54 = .ok (.iastore, 1) := by decide +kernel
theorem dX13_readMemory_55 : decode cX13_readMemory 55 = .ok (.return_, 1) := by decide +kernel
theorem dX13_readMemory_56 : decode cX13_readMemory 56 = .ok (.aload_n 0, 1) := by decide +kernel
theorem dX13_readMemory_57 : decode cX13_readMemory 57 = .ok (.aload_n 0, 1) := by decide +kernel
theorem dX13_readMemory_58 : decode cX13_readMemory 58 = .ok (.invokevirtual 241, 3) := by decide +kernel
theorem dX13_readMemory_61 : decode cX13_readMemory 61 = .ok (.invokevirtual 214, 3) := by decide +kernel
theorem dX13_readMemory_64 : decode cX13_readMemory 64 = .ok (.aload_n 0, 1) := by decide +kernel
theorem dX13_readMemory_65 : decode cX13_readMemory 65 = .ok (.getfield 31, 3) := by decide +kernel
theorem dX13_readMemory_68 : decode cX13_readMemory 68 = .ok (.iload_n 1, 1) := by decide +kernel
theorem dX13_readMemory_69 : decode cX13_readMemory 69 = .ok (.iconst 5, 1) := by decide +kernel
theorem dX13_readMemory_70 : decode cX13_readMemory 70 = .ok (.iadd, 1) := by decide +kernel
theorem dX13_readMemory_71 : decode cX13_readMemory 71 = .ok (.aload_n 0, 1) := by decide +kernel
theorem dX13_readMemory_72 : decode cX13_readMemory 72 = .ok (.iconst 0, 1) := by decide +kernel
theorem dX13_readMemory_73 : decode cX13_readMemory 73 = .ok (.bipush 16, 2) := by decide +kernel
theorem dX13_readMemory_75 : decode cX13_readMemory 75 = .ok (.invokevirtual 222, 3) := by decide +kernel
theorem dX13_readMemory_78 : decode cX13_readMemory 78 = .ok (.iastore, 1) := by decide +kernel
theorem dX13_readMemory_79 : decode cX13_readMemory 79 = .ok (.return_, 1) := by decide +kernel
def pX13_readMemory_b35 (g : MT) (this : Nat) (p1 : Int32) (p2 : Int32) (h : CT) : Option CT := bd (pX13_isOf g h this) fun x1 => (bd (pX13_must g h this x1) fun h3 => (lt (hR h3 this 19) fun r5 => (bd2 (pX13_readRow g h3 this) fun x8 h6 => (nn r5 fun a5 => (tg g a5 20 (ix (gL g a5) (p1 + 3) (lt (sI h6 a5 (Int32.toNatClampNeg (p1 + 3)) x8) fun h11 => (some h11))))))))
set_option maxRecDepth 10000 in
set_option maxHeartbeats 4000000 in
theorem pX13_readMemory_b35_ok {X : Cx} {G : Gx} {dk : Nat} {g : MT} {h0 : CT} {this : Nat} {p1 : Int32} {p2 : Int32} (Z : Zx X G cX13_readMemory RX13 3 dk none none g h0) (hK : 4 ≤ dk) (t0 : gT g this = 12) (h : CT) (hf : pX13_readMemory_b35 g this p1 p2 h = some h0) : J X g h 35 [(0, va_rf (some this)), (1, .int p1)] [] := by
  unfold pX13_readMemory_b35 at hf
  refine J_aload_n Z.1 0 dX13_readMemory_35 rfl rfl ?_
  refine J_aload_n Z.1 0 dX13_readMemory_36 rfl rfl ?_
  obtain ⟨x1, q2, hf⟩ := bd_i hf
  refine J_callV (ci := 11) (as := []) (rest := [va_rf (some this)]) (sy := [.int x1, va_rf (some this)]) Z.1 dX13_readMemory_37 cw_X13_238 (pX13_isOf_ok G (dk - 1) (by omega) q2) rfl rfl t0 (zG Z) rfl (by simp [cat_i, cat_l, cat_d, cat_rf]) (zF Z (by omega)) (zO Z (by omega) (by decide)) (zM _) Z.2.1 Z.2.1 rfl rfl ?_
  obtain ⟨h3, q4, hf⟩ := bd_i hf
  refine J_callV (ci := 11) (as := [.int x1]) (rest := []) (sy := []) Z.1 dX13_readMemory_40 cw_X13_214 (pX13_must_ok G (dk - 1) (by omega) q4) rfl rfl t0 (zG Z) rfl (by decide) (zF Z (by omega)) (zO Z (by omega) (by decide)) (zM _) Z.2.1 Z.2.1 rfl rfl ?_
  refine J_aload_n Z.1 0 dX13_readMemory_43 rfl rfl ?_
  refine J_get (v := va_rf (hR h3 this 19)) Z.1 dX13_readMemory_44 fl_X13_31 t0 rfl ?_
  refine J_tr (fun r5 er5 => ?_)
  replace hf := lt_i hf r5 er5
  refine J_iload_n Z.1 1 dX13_readMemory_47 rfl rfl ?_
  refine J_iconst Z.1 (v := 3) (by decide) dX13_readMemory_48 ?_
  refine J_iadd Z.1 dX13_readMemory_49 ?_
  refine J_aload_n Z.1 0 dX13_readMemory_50 rfl rfl ?_
  obtain ⟨x8, h6, q7, hf⟩ := bd2_i hf
  refine J_callV (ci := 11) (as := []) (rest := [.int (p1 + 3), va_rf r5]) (sy := [.int x8, .int (p1 + 3), va_rf r5]) Z.1 dX13_readMemory_51 cw_X13_232 (pX13_readRow_ok G (dk - 1) (by omega) q7) rfl rfl t0 (zG Z) rfl (by simp [cat_i, cat_l, cat_d, cat_rf]) (zF Z (by omega)) (zO Z (by omega) (by decide)) (zM _) Z.2.1 Z.2.1 rfl rfl ?_
  obtain ⟨a5, rfl, hf⟩ := nn_i hf
  obtain ⟨t9, hf⟩ := tg_i hf
  obtain ⟨i10, hf⟩ := ix_i hf
  refine J_iastore Z.1 dX13_readMemory_54 t9 i10 ?_
  refine J_th (fun h11 eh11 => ?_)
  replace hf := lt_i hf h11 eh11
  cases hf
  exact J_vret Z.1 Z.2.2.2.2.2 dX13_readMemory_55
def pX13_readMemory (g : MT) (h : CT) (this : Nat) (p1 : Int32) (p2 : Int32) : Option CT := tg g this 12 (lt (hR h this 19) fun r1 => (bd2 (pX13_readRow g h this) fun x4 h2 => (nn r1 fun a1 => (tg g a1 20 (ix (gL g a1) (p1 + 1) (lt (sI h2 a1 (Int32.toNatClampNeg (p1 + 1)) x4) fun h7 => (lt (hR h7 this 19) fun r8 => (bd2 (pX13_readAt g h7 this) fun x11 h9 => (nn r8 fun a8 => (tg g a8 20 (ix (gL g a8) (p1 + 4) (lt (sI h9 a8 (Int32.toNatClampNeg (p1 + 4)) x11) fun h14 => (if p2 = 5 then pX13_readMemory_b35 g this p1 p2  h14 else if p2 = 6 then pX13_readMemory_b35 g this p1 p2  h14 else bd (pX13_isBy g h14 this) fun x17 => (bd (pX13_must g h14 this x17) fun h19 => (lt (hR h19 this 19) fun r21 => (bd2 (pX13_countOf g h19 this 0 16) fun x24 h22 => (nn r21 fun a21 => (tg g a21 20 (ix (gL g a21) (p1 + 5) (lt (sI h22 a21 (Int32.toNatClampNeg (p1 + 5)) x24) fun h27 => (some h27)))))))))))))))))))))
set_option maxRecDepth 10000 in
set_option maxHeartbeats 4000000 in
theorem pX13_readMemory_ok (G : Gx) (dk : Nat) (hK : 4 ≤ dk) {g : MT} {h h0 : CT} {this : Nat} {p1 : Int32} {p2 : Int32} (hf : pX13_readMemory g h this p1 p2 = some h0) : Ctr G dk yX13_readMemory cX13_readMemory 3 none [va_rf (some this), .int p1, .int p2] g h none g h0 := by
  refine Ctr.ofZ (lv := [(0, va_rf (some this)), (1, .int p1), (2, .int p2)]) (by decide +kernel) (by simp [cat_i, cat_l, cat_d, cat_rf]) rfl fun X Z => ?_
  unfold pX13_readMemory at hf
  obtain ⟨t0, hf⟩ := tg_i hf
  refine J_aload_n Z.1 0 dX13_readMemory_0 rfl rfl ?_
  refine J_get (v := va_rf (hR h this 19)) Z.1 dX13_readMemory_1 fl_X13_31 t0 rfl ?_
  refine J_tr (fun r1 er1 => ?_)
  replace hf := lt_i hf r1 er1
  refine J_iload_n Z.1 1 dX13_readMemory_4 rfl rfl ?_
  refine J_iconst Z.1 (v := 1) (by decide) dX13_readMemory_5 ?_
  refine J_iadd Z.1 dX13_readMemory_6 ?_
  refine J_aload_n Z.1 0 dX13_readMemory_7 rfl rfl ?_
  obtain ⟨x4, h2, q3, hf⟩ := bd2_i hf
  refine J_callV (ci := 11) (as := []) (rest := [.int (p1 + 1), va_rf r1]) (sy := [.int x4, .int (p1 + 1), va_rf r1]) Z.1 dX13_readMemory_8 cw_X13_232 (pX13_readRow_ok G (dk - 1) (by omega) q3) rfl rfl t0 (zG Z) rfl (by simp [cat_i, cat_l, cat_d, cat_rf]) (zF Z (by omega)) (zO Z (by omega) (by decide)) (zM _) Z.2.1 Z.2.1 rfl rfl ?_
  obtain ⟨a1, rfl, hf⟩ := nn_i hf
  obtain ⟨t5, hf⟩ := tg_i hf
  obtain ⟨i6, hf⟩ := ix_i hf
  refine J_iastore Z.1 dX13_readMemory_11 t5 i6 ?_
  refine J_th (fun h7 eh7 => ?_)
  replace hf := lt_i hf h7 eh7
  refine J_aload_n Z.1 0 dX13_readMemory_12 rfl rfl ?_
  refine J_get (v := va_rf (hR h7 this 19)) Z.1 dX13_readMemory_13 fl_X13_31 t0 rfl ?_
  refine J_tr (fun r8 er8 => ?_)
  replace hf := lt_i hf r8 er8
  refine J_iload_n Z.1 1 dX13_readMemory_16 rfl rfl ?_
  refine J_iconst Z.1 (v := 4) (by decide) dX13_readMemory_17 ?_
  refine J_iadd Z.1 dX13_readMemory_18 ?_
  refine J_aload_n Z.1 0 dX13_readMemory_19 rfl rfl ?_
  obtain ⟨x11, h9, q10, hf⟩ := bd2_i hf
  refine J_callV (ci := 11) (as := []) (rest := [.int (p1 + 4), va_rf r8]) (sy := [.int x11, .int (p1 + 4), va_rf r8]) Z.1 dX13_readMemory_20 cw_X13_235 (pX13_readAt_ok G (dk - 1) (by omega) q10) rfl rfl t0 (zG Z) rfl (by simp [cat_i, cat_l, cat_d, cat_rf]) (zF Z (by omega)) (zO Z (by omega) (by decide)) (zM _) Z.2.1 Z.2.1 rfl rfl ?_
  obtain ⟨a8, rfl, hf⟩ := nn_i hf
  obtain ⟨t12, hf⟩ := tg_i hf
  obtain ⟨i13, hf⟩ := ix_i hf
  refine J_iastore Z.1 dX13_readMemory_23 t12 i13 ?_
  refine J_th (fun h14 eh14 => ?_)
  replace hf := lt_i hf h14 eh14
  refine J_iload_n Z.1 2 dX13_readMemory_24 rfl rfl ?_
  refine J_iconst Z.1 (v := 5) (by decide) dX13_readMemory_25 ?_
  refine J_icmp_eq Z.1 35 dX13_readMemory_26 (by decide) (fun c15 => ?_) (fun c15 => ?_)
  · rw [if_pos c15] at hf
    refine J_lv [0, 1] rfl ?_
    exact pX13_readMemory_b35_ok Z hK t0  _ hf
  · rw [if_neg c15] at hf
    refine J_iload_n Z.1 2 dX13_readMemory_29 rfl rfl ?_
    refine J_bipush Z.1 (v := 6) (by decide) dX13_readMemory_30 ?_
    refine J_icmp_ne Z.1 56 dX13_readMemory_32 (by decide) (fun c16 => ?_) (fun c16 => ?_)
    · rw [if_neg c16] at hf
      refine J_aload_n Z.1 0 dX13_readMemory_56 rfl rfl ?_
      refine J_aload_n Z.1 0 dX13_readMemory_57 rfl rfl ?_
      obtain ⟨x17, q18, hf⟩ := bd_i hf
      refine J_callV (ci := 11) (as := []) (rest := [va_rf (some this)]) (sy := [.int x17, va_rf (some this)]) Z.1 dX13_readMemory_58 cw_X13_241 (pX13_isBy_ok G (dk - 1) (by omega) q18) rfl rfl t0 (zG Z) rfl (by simp [cat_i, cat_l, cat_d, cat_rf]) (zF Z (by omega)) (zO Z (by omega) (by decide)) (zM _) Z.2.1 Z.2.1 rfl rfl ?_
      obtain ⟨h19, q20, hf⟩ := bd_i hf
      refine J_callV (ci := 11) (as := [.int x17]) (rest := []) (sy := []) Z.1 dX13_readMemory_61 cw_X13_214 (pX13_must_ok G (dk - 1) (by omega) q20) rfl rfl t0 (zG Z) rfl (by decide) (zF Z (by omega)) (zO Z (by omega) (by decide)) (zM _) Z.2.1 Z.2.1 rfl rfl ?_
      refine J_aload_n Z.1 0 dX13_readMemory_64 rfl rfl ?_
      refine J_get (v := va_rf (hR h19 this 19)) Z.1 dX13_readMemory_65 fl_X13_31 t0 rfl ?_
      refine J_tr (fun r21 er21 => ?_)
      replace hf := lt_i hf r21 er21
      refine J_iload_n Z.1 1 dX13_readMemory_68 rfl rfl ?_
      refine J_iconst Z.1 (v := 5) (by decide) dX13_readMemory_69 ?_
      refine J_iadd Z.1 dX13_readMemory_70 ?_
      refine J_aload_n Z.1 0 dX13_readMemory_71 rfl rfl ?_
      refine J_iconst Z.1 (v := 0) (by decide) dX13_readMemory_72 ?_
      refine J_bipush Z.1 (v := 16) (by decide) dX13_readMemory_73 ?_
      obtain ⟨x24, h22, q23, hf⟩ := bd2_i hf
      refine J_callV (ci := 11) (as := [.int 0, .int 16]) (rest := [.int (p1 + 5), va_rf r21]) (sy := [.int x24, .int (p1 + 5), va_rf r21]) Z.1 dX13_readMemory_75 cw_X13_222 (pX13_countOf_ok G (dk - 1) (by omega) q23) rfl rfl t0 (zG Z) rfl (by simp [cat_i, cat_l, cat_d, cat_rf]) (zF Z (by omega)) (zO Z (by omega) (by decide)) (zM _) Z.2.1 Z.2.1 rfl rfl ?_
      obtain ⟨a21, rfl, hf⟩ := nn_i hf
      obtain ⟨t25, hf⟩ := tg_i hf
      obtain ⟨i26, hf⟩ := ix_i hf
      refine J_iastore Z.1 dX13_readMemory_78 t25 i26 ?_
      refine J_th (fun h27 eh27 => ?_)
      replace hf := lt_i hf h27 eh27
      cases hf
      exact J_vret Z.1 Z.2.2.2.2.2 dX13_readMemory_79
    · rw [if_pos c16] at hf
      refine J_lv [0, 1] rfl ?_
      exact pX13_readMemory_b35_ok Z hK t0  _ hf
theorem dX13_readReckoned_0 : decode cX13_readReckoned 0 = .ok (.aload_n 0, 1) := by decide +kernel
theorem dX13_readReckoned_1 : decode cX13_readReckoned 1 = .ok (.getfield 31, 3) := by decide +kernel
theorem dX13_readReckoned_4 : decode cX13_readReckoned 4 = .ok (.iload_n 1, 1) := by decide +kernel
theorem dX13_readReckoned_5 : decode cX13_readReckoned 5 = .ok (.iconst 1, 1) := by decide +kernel
theorem dX13_readReckoned_6 : decode cX13_readReckoned 6 = .ok (.iadd, 1) := by decide +kernel
theorem dX13_readReckoned_7 : decode cX13_readReckoned 7 = .ok (.aload_n 0, 1) := by decide +kernel
theorem dX13_readReckoned_8 : decode cX13_readReckoned 8 = .ok (.invokevirtual 232, 3) := by decide +kernel
theorem dX13_readReckoned_11 : decode cX13_readReckoned 11 = .ok (.iastore, 1) := by decide +kernel
theorem dX13_readReckoned_12 : decode cX13_readReckoned 12 = .ok (.aload_n 0, 1) := by decide +kernel
theorem dX13_readReckoned_13 : decode cX13_readReckoned 13 = .ok (.getfield 31, 3) := by decide +kernel
theorem dX13_readReckoned_16 : decode cX13_readReckoned 16 = .ok (.iload_n 1, 1) := by decide +kernel
theorem dX13_readReckoned_17 : decode cX13_readReckoned 17 = .ok (.iconst 2, 1) := by decide +kernel
theorem dX13_readReckoned_18 : decode cX13_readReckoned 18 = .ok (.iadd, 1) := by decide +kernel
theorem dX13_readReckoned_19 : decode cX13_readReckoned 19 = .ok (.aload_n 0, 1) := by decide +kernel
theorem dX13_readReckoned_20 : decode cX13_readReckoned 20 = .ok (.invokevirtual 232, 3) := by decide +kernel
theorem dX13_readReckoned_23 : decode cX13_readReckoned 23 = .ok (.iastore, 1) := by decide +kernel
theorem dX13_readReckoned_24 : decode cX13_readReckoned 24 = .ok (.iload_n 2, 1) := by decide +kernel
theorem dX13_readReckoned_25 : decode cX13_readReckoned 25 = .ok (.bipush 14, 2) := by decide +kernel
theorem dX13_readReckoned_27 : decode cX13_readReckoned 27 = .ok (.if_icmp .ge 15, 3) := by decide +kernel
theorem dX13_readReckoned_30 : decode cX13_readReckoned 30 = .ok (.aload_n 0, 1) := by decide +kernel
theorem dX13_readReckoned_31 : decode cX13_readReckoned 31 = .ok (.getfield 31, 3) := by decide +kernel
theorem dX13_readReckoned_34 : decode cX13_readReckoned 34 = .ok (.iload_n 1, 1) := by decide +kernel
theorem dX13_readReckoned_35 : decode cX13_readReckoned 35 = .ok (.iconst 3, 1) := by decide +kernel
theorem dX13_readReckoned_36 : decode cX13_readReckoned 36 = .ok (.iadd, 1) := by decide +kernel
theorem dX13_readReckoned_37 : decode cX13_readReckoned 37 = .ok (.aload_n 0, 1) := by decide +kernel
theorem dX13_readReckoned_38 : decode cX13_readReckoned 38 = .ok (.invokevirtual 232, 3) := by decide +kernel
theorem dX13_readReckoned_41 : decode cX13_readReckoned 41 = .ok (.iastore, 1) := by decide +kernel
theorem dX13_readReckoned_42 : decode cX13_readReckoned 42 = .ok (.aload_n 0, 1) := by decide +kernel
theorem dX13_readReckoned_43 : decode cX13_readReckoned 43 = .ok (.getfield 195, 3) := by decide +kernel
theorem dX13_readReckoned_46 : decode cX13_readReckoned 46 = .ok (.ifCond .gt 10, 3) := by decide +kernel
theorem dX13_readReckoned_49 : decode cX13_readReckoned 49 = .ok (.aload_n 0, 1) := by decide +kernel
theorem dX13_readReckoned_50 : decode cX13_readReckoned 50 = .ok (.invokevirtual 244, 3) := by decide +kernel
theorem dX13_readReckoned_53 : decode cX13_readReckoned 53 = .ok (.ifCond .ne 4, 3) := by decide +kernel
theorem dX13_readReckoned_56 : decode cX13_readReckoned 56 = .ok (.return_, 1) := by decide +kernel
theorem dX13_readReckoned_57 : decode cX13_readReckoned 57 = .ok (.aload_n 0, 1) := by decide +kernel
theorem dX13_readReckoned_58 : decode cX13_readReckoned 58 = .ok (.getfield 31, 3) := by decide +kernel
theorem dX13_readReckoned_61 : decode cX13_readReckoned 61 = .ok (.iload_n 1, 1) := by decide +kernel
theorem dX13_readReckoned_62 : decode cX13_readReckoned 62 = .ok (.bipush 6, 2) := by decide +kernel
theorem dX13_readReckoned_64 : decode cX13_readReckoned 64 = .ok (.iadd, 1) := by decide +kernel
theorem dX13_readReckoned_65 : decode cX13_readReckoned 65 = .ok (.iconst 1, 1) := by decide +kernel
theorem dX13_readReckoned_66 : decode cX13_readReckoned 66 = .ok (.iastore, 1) := by decide +kernel
theorem dX13_readReckoned_67 : decode cX13_readReckoned 67 = .ok (.aload_n 0, 1) := by decide +kernel
theorem dX13_readReckoned_68 : decode cX13_readReckoned 68 = .ok (.invokevirtual 205, 3) := by decide +kernel
theorem dX13_readReckoned_71 : decode cX13_readReckoned 71 = .ok (.return_, 1) := by decide +kernel
def pX13_readReckoned_b42 (g : MT) (this : Nat) (p1 : Int32) (p2 : Int32) (h : CT) : Option CT := if 0 < (hI h this 12) then some h else bd (pX13_isMasked g h this) fun x2 => (if x2 = 0 then some h else lt (hR h this 19) fun r5 => (nn r5 fun a5 => (tg g a5 20 (ix (gL g a5) (p1 + 6) (lt (sI h a5 (Int32.toNatClampNeg (p1 + 6)) 1) fun h8 => (bd (pX13_advance g h8 this) fun h9 => (some h9)))))))
set_option maxRecDepth 10000 in
set_option maxHeartbeats 4000000 in
theorem pX13_readReckoned_b42_ok {X : Cx} {G : Gx} {dk : Nat} {g : MT} {h0 : CT} {this : Nat} {p1 : Int32} {p2 : Int32} (Z : Zx X G cX13_readReckoned RX13 3 dk none none g h0) (hK : 4 ≤ dk) (t0 : gT g this = 12) (h : CT) (hf : pX13_readReckoned_b42 g this p1 p2 h = some h0) : J X g h 42 [(0, va_rf (some this)), (1, .int p1)] [] := by
  unfold pX13_readReckoned_b42 at hf
  refine J_aload_n Z.1 0 dX13_readReckoned_42 rfl rfl ?_
  refine J_get (v := .int (hI h this 12)) Z.1 dX13_readReckoned_43 fl_X13_195 t0 rfl ?_
  refine J_if_gt Z.1 56 dX13_readReckoned_46 (by decide) (fun c1 => ?_) (fun c1 => ?_)
  · rw [if_pos c1] at hf
    cases hf
    exact J_vret Z.1 Z.2.2.2.2.2 dX13_readReckoned_56
  · rw [if_neg c1] at hf
    refine J_aload_n Z.1 0 dX13_readReckoned_49 rfl rfl ?_
    obtain ⟨x2, q3, hf⟩ := bd_i hf
    refine J_callV (ci := 11) (as := []) (rest := []) (sy := [.int x2]) Z.1 dX13_readReckoned_50 cw_X13_244 (pX13_isMasked_ok G (dk - 1) (by omega) q3) rfl rfl t0 (zG Z) rfl (by decide) (zF Z (by omega)) (zO Z (by omega) (by decide)) (zM _) Z.2.1 Z.2.1 rfl rfl ?_
    refine J_if_ne Z.1 57 dX13_readReckoned_53 (by decide) (fun c4 => ?_) (fun c4 => ?_)
    · rw [if_neg c4] at hf
      refine J_aload_n Z.1 0 dX13_readReckoned_57 rfl rfl ?_
      refine J_get (v := va_rf (hR h this 19)) Z.1 dX13_readReckoned_58 fl_X13_31 t0 rfl ?_
      refine J_tr (fun r5 er5 => ?_)
      replace hf := lt_i hf r5 er5
      refine J_iload_n Z.1 1 dX13_readReckoned_61 rfl rfl ?_
      refine J_bipush Z.1 (v := 6) (by decide) dX13_readReckoned_62 ?_
      refine J_iadd Z.1 dX13_readReckoned_64 ?_
      refine J_iconst Z.1 (v := 1) (by decide) dX13_readReckoned_65 ?_
      obtain ⟨a5, rfl, hf⟩ := nn_i hf
      obtain ⟨t6, hf⟩ := tg_i hf
      obtain ⟨i7, hf⟩ := ix_i hf
      refine J_iastore Z.1 dX13_readReckoned_66 t6 i7 ?_
      refine J_th (fun h8 eh8 => ?_)
      replace hf := lt_i hf h8 eh8
      refine J_aload_n Z.1 0 dX13_readReckoned_67 rfl rfl ?_
      obtain ⟨h9, q10, hf⟩ := bd_i hf
      refine J_callV (ci := 11) (as := []) (rest := []) (sy := []) Z.1 dX13_readReckoned_68 cw_X13_205 (pX13_advance_ok G (dk - 1) (by omega) q10) rfl rfl t0 (zG Z) rfl (by decide) (zF Z (by omega)) (zO Z (by omega) (by decide)) (zM _) Z.2.1 Z.2.1 rfl rfl ?_
      cases hf
      exact J_vret Z.1 Z.2.2.2.2.2 dX13_readReckoned_71
    · rw [if_pos c4] at hf
      cases hf
      exact J_vret Z.1 Z.2.2.2.2.2 dX13_readReckoned_56
def pX13_readReckoned (g : MT) (h : CT) (this : Nat) (p1 : Int32) (p2 : Int32) : Option CT := tg g this 12 (lt (hR h this 19) fun r1 => (bd2 (pX13_readRow g h this) fun x4 h2 => (nn r1 fun a1 => (tg g a1 20 (ix (gL g a1) (p1 + 1) (lt (sI h2 a1 (Int32.toNatClampNeg (p1 + 1)) x4) fun h7 => (lt (hR h7 this 19) fun r8 => (bd2 (pX13_readRow g h7 this) fun x11 h9 => (nn r8 fun a8 => (tg g a8 20 (ix (gL g a8) (p1 + 2) (lt (sI h9 a8 (Int32.toNatClampNeg (p1 + 2)) x11) fun h14 => (if 14 ≤ p2 then pX13_readReckoned_b42 g this p1 p2  h14 else lt (hR h14 this 19) fun r16 => (bd2 (pX13_readRow g h14 this) fun x19 h17 => (nn r16 fun a16 => (tg g a16 20 (ix (gL g a16) (p1 + 3) (lt (sI h17 a16 (Int32.toNatClampNeg (p1 + 3)) x19) fun h22 => (pX13_readReckoned_b42 g this p1 p2  h22)))))))))))))))))))
set_option maxRecDepth 10000 in
set_option maxHeartbeats 4000000 in
theorem pX13_readReckoned_ok (G : Gx) (dk : Nat) (hK : 4 ≤ dk) {g : MT} {h h0 : CT} {this : Nat} {p1 : Int32} {p2 : Int32} (hf : pX13_readReckoned g h this p1 p2 = some h0) : Ctr G dk yX13_readReckoned cX13_readReckoned 3 none [va_rf (some this), .int p1, .int p2] g h none g h0 := by
  refine Ctr.ofZ (lv := [(0, va_rf (some this)), (1, .int p1), (2, .int p2)]) (by decide +kernel) (by simp [cat_i, cat_l, cat_d, cat_rf]) rfl fun X Z => ?_
  unfold pX13_readReckoned at hf
  obtain ⟨t0, hf⟩ := tg_i hf
  refine J_aload_n Z.1 0 dX13_readReckoned_0 rfl rfl ?_
  refine J_get (v := va_rf (hR h this 19)) Z.1 dX13_readReckoned_1 fl_X13_31 t0 rfl ?_
  refine J_tr (fun r1 er1 => ?_)
  replace hf := lt_i hf r1 er1
  refine J_iload_n Z.1 1 dX13_readReckoned_4 rfl rfl ?_
  refine J_iconst Z.1 (v := 1) (by decide) dX13_readReckoned_5 ?_
  refine J_iadd Z.1 dX13_readReckoned_6 ?_
  refine J_aload_n Z.1 0 dX13_readReckoned_7 rfl rfl ?_
  obtain ⟨x4, h2, q3, hf⟩ := bd2_i hf
  refine J_callV (ci := 11) (as := []) (rest := [.int (p1 + 1), va_rf r1]) (sy := [.int x4, .int (p1 + 1), va_rf r1]) Z.1 dX13_readReckoned_8 cw_X13_232 (pX13_readRow_ok G (dk - 1) (by omega) q3) rfl rfl t0 (zG Z) rfl (by simp [cat_i, cat_l, cat_d, cat_rf]) (zF Z (by omega)) (zO Z (by omega) (by decide)) (zM _) Z.2.1 Z.2.1 rfl rfl ?_
  obtain ⟨a1, rfl, hf⟩ := nn_i hf
  obtain ⟨t5, hf⟩ := tg_i hf
  obtain ⟨i6, hf⟩ := ix_i hf
  refine J_iastore Z.1 dX13_readReckoned_11 t5 i6 ?_
  refine J_th (fun h7 eh7 => ?_)
  replace hf := lt_i hf h7 eh7
  refine J_aload_n Z.1 0 dX13_readReckoned_12 rfl rfl ?_
  refine J_get (v := va_rf (hR h7 this 19)) Z.1 dX13_readReckoned_13 fl_X13_31 t0 rfl ?_
  refine J_tr (fun r8 er8 => ?_)
  replace hf := lt_i hf r8 er8
  refine J_iload_n Z.1 1 dX13_readReckoned_16 rfl rfl ?_
  refine J_iconst Z.1 (v := 2) (by decide) dX13_readReckoned_17 ?_
  refine J_iadd Z.1 dX13_readReckoned_18 ?_
  refine J_aload_n Z.1 0 dX13_readReckoned_19 rfl rfl ?_
  obtain ⟨x11, h9, q10, hf⟩ := bd2_i hf
  refine J_callV (ci := 11) (as := []) (rest := [.int (p1 + 2), va_rf r8]) (sy := [.int x11, .int (p1 + 2), va_rf r8]) Z.1 dX13_readReckoned_20 cw_X13_232 (pX13_readRow_ok G (dk - 1) (by omega) q10) rfl rfl t0 (zG Z) rfl (by simp [cat_i, cat_l, cat_d, cat_rf]) (zF Z (by omega)) (zO Z (by omega) (by decide)) (zM _) Z.2.1 Z.2.1 rfl rfl ?_
  obtain ⟨a8, rfl, hf⟩ := nn_i hf
  obtain ⟨t12, hf⟩ := tg_i hf
  obtain ⟨i13, hf⟩ := ix_i hf
  refine J_iastore Z.1 dX13_readReckoned_23 t12 i13 ?_
  refine J_th (fun h14 eh14 => ?_)
  replace hf := lt_i hf h14 eh14
  refine J_iload_n Z.1 2 dX13_readReckoned_24 rfl rfl ?_
  refine J_bipush Z.1 (v := 14) (by decide) dX13_readReckoned_25 ?_
  refine J_icmp_ge Z.1 42 dX13_readReckoned_27 (by decide) (fun c15 => ?_) (fun c15 => ?_)
  · rw [if_pos c15] at hf
    refine J_lv [0, 1] rfl ?_
    exact pX13_readReckoned_b42_ok Z hK t0  _ hf
  · rw [if_neg c15] at hf
    refine J_aload_n Z.1 0 dX13_readReckoned_30 rfl rfl ?_
    refine J_get (v := va_rf (hR h14 this 19)) Z.1 dX13_readReckoned_31 fl_X13_31 t0 rfl ?_
    refine J_tr (fun r16 er16 => ?_)
    replace hf := lt_i hf r16 er16
    refine J_iload_n Z.1 1 dX13_readReckoned_34 rfl rfl ?_
    refine J_iconst Z.1 (v := 3) (by decide) dX13_readReckoned_35 ?_
    refine J_iadd Z.1 dX13_readReckoned_36 ?_
    refine J_aload_n Z.1 0 dX13_readReckoned_37 rfl rfl ?_
    obtain ⟨x19, h17, q18, hf⟩ := bd2_i hf
    refine J_callV (ci := 11) (as := []) (rest := [.int (p1 + 3), va_rf r16]) (sy := [.int x19, .int (p1 + 3), va_rf r16]) Z.1 dX13_readReckoned_38 cw_X13_232 (pX13_readRow_ok G (dk - 1) (by omega) q18) rfl rfl t0 (zG Z) rfl (by simp [cat_i, cat_l, cat_d, cat_rf]) (zF Z (by omega)) (zO Z (by omega) (by decide)) (zM _) Z.2.1 Z.2.1 rfl rfl ?_
    obtain ⟨a16, rfl, hf⟩ := nn_i hf
    obtain ⟨t20, hf⟩ := tg_i hf
    obtain ⟨i21, hf⟩ := ix_i hf
    refine J_iastore Z.1 dX13_readReckoned_41 t20 i21 ?_
    refine J_th (fun h22 eh22 => ?_)
    replace hf := lt_i hf h22 eh22
    refine J_lv [0, 1] rfl ?_
    exact pX13_readReckoned_b42_ok Z hK t0  _ hf
theorem dX13_readRest_0 : decode cX13_readRest 0 = .ok (.iload_n 2, 1) := by decide +kernel
theorem dX13_readRest_1 : decode cX13_readRest 1 = .ok (.ifCond .ne 21, 3) := by decide +kernel
theorem dX13_readRest_4 : decode cX13_readRest 4 = .ok (.aload_n 0, 1) := by decide +kernel
theorem dX13_readRest_5 : decode cX13_readRest 5 = .ok (.getfield 31, 3) := by decide +kernel
theorem dX13_readRest_8 : decode cX13_readRest 8 = .ok (.iload_n 1, 1) := by decide +kernel
theorem dX13_readRest_9 : decode cX13_readRest 9 = .ok (.iconst 4, 1) := by decide +kernel
theorem dX13_readRest_10 : decode cX13_readRest 10 = .ok (.iadd, 1) := by decide +kernel
theorem dX13_readRest_11 : decode cX13_readRest 11 = .ok (.aload_n 0, 1) := by decide +kernel
theorem dX13_readRest_12 : decode cX13_readRest 12 = .ok (.iconst 0, 1) := by decide +kernel
theorem dX13_readRest_13 : decode cX13_readRest 13 = .ok (.bipush 16, 2) := by decide +kernel
theorem dX13_readRest_15 : decode cX13_readRest 15 = .ok (.invokevirtual 222, 3) := by decide +kernel
theorem dX13_readRest_18 : decode cX13_readRest 18 = .ok (.iastore, 1) := by decide +kernel
theorem dX13_readRest_19 : decode cX13_readRest 19 = .ok (.goto 229, 3) := by decide +kernel
theorem dX13_readRest_22 : decode cX13_readRest 22 = .ok (.iload_n 2, 1) := by decide +kernel
theorem dX13_readRest_23 : decode cX13_readRest 23 = .ok (.iconst 1, 1) := by decide +kernel
theorem dX13_readRest_24 : decode cX13_readRest 24 = .ok (.if_icmp .eq 9, 3) := by decide +kernel
theorem dX13_readRest_27 : decode cX13_readRest 27 = .ok (.iload_n 2, 1) := by decide +kernel
theorem dX13_readRest_28 : decode cX13_readRest 28 = .ok (.bipush 19, 2) := by decide +kernel
theorem dX13_readRest_30 : decode cX13_readRest 30 = .ok (.if_icmp .ne 18, 3) := by decide +kernel
theorem dX13_readRest_33 : decode cX13_readRest 33 = .ok (.aload_n 0, 1) := by decide +kernel
theorem dX13_readRest_34 : decode cX13_readRest 34 = .ok (.getfield 31, 3) := by decide +kernel
theorem dX13_readRest_37 : decode cX13_readRest 37 = .ok (.iload_n 1, 1) := by decide +kernel
theorem dX13_readRest_38 : decode cX13_readRest 38 = .ok (.iconst 1, 1) := by decide +kernel
theorem dX13_readRest_39 : decode cX13_readRest 39 = .ok (.iadd, 1) := by decide +kernel
theorem dX13_readRest_40 : decode cX13_readRest 40 = .ok (.aload_n 0, 1) := by decide +kernel
theorem dX13_readRest_41 : decode cX13_readRest 41 = .ok (.invokevirtual 232, 3) := by decide +kernel
theorem dX13_readRest_44 : decode cX13_readRest 44 = .ok (.iastore, 1) := by decide +kernel
theorem dX13_readRest_45 : decode cX13_readRest 45 = .ok (.goto 203, 3) := by decide +kernel
theorem dX13_readRest_48 : decode cX13_readRest 48 = .ok (.iload_n 2, 1) := by decide +kernel
theorem dX13_readRest_49 : decode cX13_readRest 49 = .ok (.iconst 2, 1) := by decide +kernel
theorem dX13_readRest_50 : decode cX13_readRest 50 = .ok (.if_icmp .ne 30, 3) := by decide +kernel
theorem dX13_readRest_53 : decode cX13_readRest 53 = .ok (.aload_n 0, 1) := by decide +kernel
theorem dX13_readRest_54 : decode cX13_readRest 54 = .ok (.getfield 31, 3) := by decide +kernel
theorem dX13_readRest_57 : decode cX13_readRest 57 = .ok (.iload_n 1, 1) := by decide +kernel
theorem dX13_readRest_58 : decode cX13_readRest 58 = .ok (.iconst 1, 1) := by decide +kernel
theorem dX13_readRest_59 : decode cX13_readRest 59 = .ok (.iadd, 1) := by decide +kernel
theorem dX13_readRest_60 : decode cX13_readRest 60 = .ok (.aload_n 0, 1) := by decide +kernel
theorem dX13_readRest_61 : decode cX13_readRest 61 = .ok (.invokevirtual 232, 3) := by decide +kernel
theorem dX13_readRest_64 : decode cX13_readRest 64 = .ok (.iastore, 1) := by decide +kernel
theorem dX13_readRest_65 : decode cX13_readRest 65 = .ok (.aload_n 0, 1) := by decide +kernel
theorem dX13_readRest_66 : decode cX13_readRest 66 = .ok (.getfield 31, 3) := by decide +kernel
theorem dX13_readRest_69 : decode cX13_readRest 69 = .ok (.iload_n 1, 1) := by decide +kernel
theorem dX13_readRest_70 : decode cX13_readRest 70 = .ok (.iconst 5, 1) := by decide +kernel
theorem dX13_readRest_71 : decode cX13_readRest 71 = .ok (.iadd, 1) := by decide +kernel
theorem dX13_readRest_72 : decode cX13_readRest 72 = .ok (.aload_n 0, 1) := by decide +kernel
theorem dX13_readRest_73 : decode cX13_readRest 73 = .ok (.invokevirtual 247, 3) := by decide +kernel
theorem dX13_readRest_76 : decode cX13_readRest 76 = .ok (.iastore, 1) := by decide +kernel
theorem dX13_readRest_77 : decode cX13_readRest 77 = .ok (.goto 171, 3) := by decide +kernel
theorem dX13_readRest_80 : decode cX13_readRest 80 = .ok (.iload_n 2, 1) := by decide +kernel
theorem dX13_readRest_81 : decode cX13_readRest 81 = .ok (.iconst 3, 1) := by decide +kernel
theorem dX13_readRest_82 : decode cX13_readRest 82 = .ok (.if_icmp .lt 18, 3) := by decide +kernel
theorem dX13_readRest_85 : decode cX13_readRest 85 = .ok (.iload_n 2, 1) := by decide +kernel
theorem dX13_readRest_86 : decode cX13_readRest 86 = .ok (.bipush 6, 2) := by decide +kernel
theorem dX13_readRest_88 : decode cX13_readRest 88 = .ok (.if_icmp .gt 12, 3) := by decide +kernel
theorem dX13_readRest_91 : decode cX13_readRest 91 = .ok (.aload_n 0, 1) := by decide +kernel
theorem dX13_readRest_92 : decode cX13_readRest 92 = .ok (.iload_n 1, 1) := by decide +kernel
theorem dX13_readRest_93 : decode cX13_readRest 93 = .ok (.iload_n 2, 1) := by decide +kernel
theorem dX13_readRest_94 : decode cX13_readRest 94 = .ok (.invokevirtual 250, 3) := by decide +kernel
theorem dX13_readRest_97 : decode cX13_readRest 97 = .ok (.goto 151, 3) := by decide +kernel
theorem dX13_readRest_100 : decode cX13_readRest 100 = .ok (.iload_n 2, 1) := by decide +kernel
theorem dX13_readRest_101 : decode cX13_readRest 101 = .ok (.bipush 7, 2) := by decide +kernel
theorem dX13_readRest_103 : decode cX13_readRest 103 = .ok (.if_icmp .lt 18, 3) := by decide +kernel
theorem dX13_readRest_106 : decode cX13_readRest 106 = .ok (.iload_n 2, 1) := by decide +kernel
theorem dX13_readRest_107 : decode cX13_readRest 107 = .ok (.bipush 16, 2) := by decide +kernel
theorem dX13_readRest_109 : decode cX13_readRest 109 = .ok (.if_icmp .gt 12, 3) := by decide +kernel
theorem dX13_readRest_112 : decode cX13_readRest 112 = .ok (.aload_n 0, 1) := by decide +kernel
theorem dX13_readRest_113 : decode cX13_readRest 113 = .ok (.iload_n 1, 1) := by decide +kernel
theorem dX13_readRest_114 : decode cX13_readRest 114 = .ok (.iload_n 2, 1) := by decide +kernel
theorem dX13_readRest_115 : decode cX13_readRest 115 = .ok (.invokevirtual 253, 3) := by decide +kernel
theorem dX13_readRest_118 : decode cX13_readRest 118 = .ok (.goto 130, 3) := by decide +kernel
theorem dX13_readRest_121 : decode cX13_readRest 121 = .ok (.iload_n 2, 1) := by decide +kernel
theorem dX13_readRest_122 : decode cX13_readRest 122 = .ok (.bipush 17, 2) := by decide +kernel
theorem dX13_readRest_124 : decode cX13_readRest 124 = .ok (.if_icmp .eq 15, 3) := by decide +kernel
theorem dX13_readRest_127 : decode cX13_readRest 127 = .ok (.iload_n 2, 1) := by decide +kernel
theorem dX13_readRest_128 : decode cX13_readRest 128 = .ok (.bipush 18, 2) := by decide +kernel
theorem dX13_readRest_130 : decode cX13_readRest 130 = .ok (.if_icmp .eq 9, 3) := by decide +kernel
theorem dX13_readRest_133 : decode cX13_readRest 133 = .ok (.iload_n 2, 1) := by decide +kernel
theorem dX13_readRest_134 : decode cX13_readRest 134 = .ok (.bipush 21, 2) := by decide +kernel
theorem dX13_readRest_136 : decode cX13_readRest 136 = .ok (.if_icmp .ne 30, 3) := by decide +kernel
theorem dX13_readRest_139 : decode cX13_readRest 139 = .ok (.aload_n 0, 1) := by decide +kernel
theorem dX13_readRest_140 : decode cX13_readRest 140 = .ok (.getfield 31, 3) := by decide +kernel
theorem dX13_readRest_143 : decode cX13_readRest 143 = .ok (.iload_n 1, 1) := by decide +kernel
theorem dX13_readRest_144 : decode cX13_readRest 144 = .ok (.iconst 1, 1) := by decide +kernel
theorem dX13_readRest_145 : decode cX13_readRest 145 = .ok (.iadd, 1) := by decide +kernel
theorem dX13_readRest_146 : decode cX13_readRest 146 = .ok (.aload_n 0, 1) := by decide +kernel
theorem dX13_readRest_147 : decode cX13_readRest 147 = .ok (.invokevirtual 232, 3) := by decide +kernel
theorem dX13_readRest_150 : decode cX13_readRest 150 = .ok (.iastore, 1) := by decide +kernel
theorem dX13_readRest_151 : decode cX13_readRest 151 = .ok (.aload_n 0, 1) := by decide +kernel
theorem dX13_readRest_152 : decode cX13_readRest 152 = .ok (.getfield 31, 3) := by decide +kernel
theorem dX13_readRest_155 : decode cX13_readRest 155 = .ok (.iload_n 1, 1) := by decide +kernel
theorem dX13_readRest_156 : decode cX13_readRest 156 = .ok (.iconst 2, 1) := by decide +kernel
theorem dX13_readRest_157 : decode cX13_readRest 157 = .ok (.iadd, 1) := by decide +kernel
theorem dX13_readRest_158 : decode cX13_readRest 158 = .ok (.aload_n 0, 1) := by decide +kernel
theorem dX13_readRest_159 : decode cX13_readRest 159 = .ok (.invokevirtual 232, 3) := by decide +kernel
theorem dX13_readRest_162 : decode cX13_readRest 162 = .ok (.iastore, 1) := by decide +kernel
theorem dX13_readRest_163 : decode cX13_readRest 163 = .ok (.goto 85, 3) := by decide +kernel
theorem dX13_readRest_166 : decode cX13_readRest 166 = .ok (.iload_n 2, 1) := by decide +kernel
theorem dX13_readRest_167 : decode cX13_readRest 167 = .ok (.bipush 22, 2) := by decide +kernel
theorem dX13_readRest_169 : decode cX13_readRest 169 = .ok (.if_icmp .ne 18, 3) := by decide +kernel
theorem dX13_readRest_172 : decode cX13_readRest 172 = .ok (.aload_n 0, 1) := by decide +kernel
theorem dX13_readRest_173 : decode cX13_readRest 173 = .ok (.getfield 31, 3) := by decide +kernel
theorem dX13_readRest_176 : decode cX13_readRest 176 = .ok (.iload_n 1, 1) := by decide +kernel
theorem dX13_readRest_177 : decode cX13_readRest 177 = .ok (.iconst 5, 1) := by decide +kernel
theorem dX13_readRest_178 : decode cX13_readRest 178 = .ok (.iadd, 1) := by decide +kernel
theorem dX13_readRest_179 : decode cX13_readRest 179 = .ok (.aload_n 0, 1) := by decide +kernel
theorem dX13_readRest_180 : decode cX13_readRest 180 = .ok (.invokevirtual 247, 3) := by decide +kernel
theorem dX13_readRest_183 : decode cX13_readRest 183 = .ok (.iastore, 1) := by decide +kernel
theorem dX13_readRest_184 : decode cX13_readRest 184 = .ok (.goto 64, 3) := by decide +kernel
theorem dX13_readRest_187 : decode cX13_readRest 187 = .ok (.iload_n 2, 1) := by decide +kernel
theorem dX13_readRest_188 : decode cX13_readRest 188 = .ok (.bipush 23, 2) := by decide +kernel
theorem dX13_readRest_190 : decode cX13_readRest 190 = .ok (.if_icmp .eq 9, 3) := by decide +kernel
theorem dX13_readRest_193 : decode cX13_readRest 193 = .ok (.iload_n 2, 1) := by decide +kernel
theorem dX13_readRest_194 : decode cX13_readRest 194 = .ok (.bipush 24, 2) := by decide +kernel
theorem dX13_readRest_196 : decode cX13_readRest 196 = .ok (.if_icmp .ne 30, 3) := by decide +kernel
theorem dX13_readRest_199 : decode cX13_readRest 199 = .ok (.aload_n 0, 1) := by decide +kernel
theorem dX13_readRest_200 : decode cX13_readRest 200 = .ok (.getfield 31, 3) := by decide +kernel
theorem dX13_readRest_203 : decode cX13_readRest 203 = .ok (.iload_n 1, 1) := by decide +kernel
theorem dX13_readRest_204 : decode cX13_readRest 204 = .ok (.iconst 5, 1) := by decide +kernel
theorem dX13_readRest_205 : decode cX13_readRest 205 = .ok (.iadd, 1) := by decide +kernel
theorem dX13_readRest_206 : decode cX13_readRest 206 = .ok (.aload_n 0, 1) := by decide +kernel
theorem dX13_readRest_207 : decode cX13_readRest 207 = .ok (.invokevirtual 247, 3) := by decide +kernel
theorem dX13_readRest_210 : decode cX13_readRest 210 = .ok (.iastore, 1) := by decide +kernel
theorem dX13_readRest_211 : decode cX13_readRest 211 = .ok (.aload_n 0, 1) := by decide +kernel
theorem dX13_readRest_212 : decode cX13_readRest 212 = .ok (.getfield 31, 3) := by decide +kernel
theorem dX13_readRest_215 : decode cX13_readRest 215 = .ok (.iload_n 1, 1) := by decide +kernel
theorem dX13_readRest_216 : decode cX13_readRest 216 = .ok (.iconst 1, 1) := by decide +kernel
theorem dX13_readRest_217 : decode cX13_readRest 217 = .ok (.iadd, 1) := by decide +kernel
theorem dX13_readRest_218 : decode cX13_readRest 218 = .ok (.aload_n 0, 1) := by decide +kernel
theorem dX13_readRest_219 : decode cX13_readRest 219 = .ok (.invokevirtual 232, 3) := by decide +kernel
theorem dX13_readRest_222 : decode cX13_readRest 222 = .ok (.iastore, 1) := by decide +kernel
theorem dX13_readRest_223 : decode cX13_readRest 223 = .ok (.goto 25, 3) := by decide +kernel
theorem dX13_readRest_226 : decode cX13_readRest 226 = .ok (.iload_n 2, 1) := by decide +kernel
theorem dX13_readRest_227 : decode cX13_readRest 227 = .ok (.bipush 25, 2) := by decide +kernel
theorem dX13_readRest_229 : decode cX13_readRest 229 = .ok (.if_icmp .ne 19, 3) := by decide +kernel
theorem dX13_readRest_232 : decode cX13_readRest 232 = .ok (.aload_n 0, 1) := by decide +kernel
theorem dX13_readRest_233 : decode cX13_readRest 233 = .ok (.getfield 31, 3) := by decide +kernel
theorem dX13_readRest_236 : decode cX13_readRest 236 = .ok (.iload_n 1, 1) := by decide +kernel
theorem dX13_readRest_237 : decode cX13_readRest 237 = .ok (.iconst 4, 1) := by decide +kernel
theorem dX13_readRest_238 : decode cX13_readRest 238 = .ok (.iadd, 1) := by decide +kernel
theorem dX13_readRest_239 : decode cX13_readRest 239 = .ok (.aload_n 0, 1) := by decide +kernel
theorem dX13_readRest_240 : decode cX13_readRest 240 = .ok (.iconst 0, 1) := by decide +kernel
theorem dX13_readRest_241 : decode cX13_readRest 241 = .ok (.sipush 200, 3) := by decide +kernel
theorem dX13_readRest_244 : decode cX13_readRest 244 = .ok (.invokevirtual 222, 3) := by decide +kernel
theorem dX13_readRest_247 : decode cX13_readRest 247 = .ok (.iastore, 1) := by decide +kernel
theorem dX13_readRest_248 : decode cX13_readRest 248 = .ok (.return_, 1) := by decide +kernel
def pX13_readRest_b33 (g : MT) (this : Nat) (p1 : Int32) (p2 : Int32) (h : CT) : Option CT := lt (hR h this 19) fun r1 => (bd2 (pX13_readRow g h this) fun x4 h2 => (nn r1 fun a1 => (tg g a1 20 (ix (gL g a1) (p1 + 1) (lt (sI h2 a1 (Int32.toNatClampNeg (p1 + 1)) x4) fun h7 => (some h7))))))
set_option maxRecDepth 10000 in
set_option maxHeartbeats 4000000 in
theorem pX13_readRest_b33_ok {X : Cx} {G : Gx} {dk : Nat} {g : MT} {h0 : CT} {this : Nat} {p1 : Int32} {p2 : Int32} (Z : Zx X G cX13_readRest RX13 3 dk none none g h0) (hK : 5 ≤ dk) (t0 : gT g this = 12) (h : CT) (hf : pX13_readRest_b33 g this p1 p2 h = some h0) : J X g h 33 [(0, va_rf (some this)), (1, .int p1)] [] := by
  unfold pX13_readRest_b33 at hf
  refine J_aload_n Z.1 0 dX13_readRest_33 rfl rfl ?_
  refine J_get (v := va_rf (hR h this 19)) Z.1 dX13_readRest_34 fl_X13_31 t0 rfl ?_
  refine J_tr (fun r1 er1 => ?_)
  replace hf := lt_i hf r1 er1
  refine J_iload_n Z.1 1 dX13_readRest_37 rfl rfl ?_
  refine J_iconst Z.1 (v := 1) (by decide) dX13_readRest_38 ?_
  refine J_iadd Z.1 dX13_readRest_39 ?_
  refine J_aload_n Z.1 0 dX13_readRest_40 rfl rfl ?_
  obtain ⟨x4, h2, q3, hf⟩ := bd2_i hf
  refine J_callV (ci := 11) (as := []) (rest := [.int (p1 + 1), va_rf r1]) (sy := [.int x4, .int (p1 + 1), va_rf r1]) Z.1 dX13_readRest_41 cw_X13_232 (pX13_readRow_ok G (dk - 1) (by omega) q3) rfl rfl t0 (zG Z) rfl (by simp [cat_i, cat_l, cat_d, cat_rf]) (zF Z (by omega)) (zO Z (by omega) (by decide)) (zM _) Z.2.1 Z.2.1 rfl rfl ?_
  obtain ⟨a1, rfl, hf⟩ := nn_i hf
  obtain ⟨t5, hf⟩ := tg_i hf
  obtain ⟨i6, hf⟩ := ix_i hf
  refine J_iastore Z.1 dX13_readRest_44 t5 i6 ?_
  refine J_th (fun h7 eh7 => ?_)
  replace hf := lt_i hf h7 eh7
  refine J_goto Z.1 248 dX13_readRest_45 (by decide) ?_
  cases hf
  exact J_vret Z.1 Z.2.2.2.2.2 dX13_readRest_248
def pX13_readRest_b139 (g : MT) (this : Nat) (p1 : Int32) (p2 : Int32) (h : CT) : Option CT := lt (hR h this 19) fun r1 => (bd2 (pX13_readRow g h this) fun x4 h2 => (nn r1 fun a1 => (tg g a1 20 (ix (gL g a1) (p1 + 1) (lt (sI h2 a1 (Int32.toNatClampNeg (p1 + 1)) x4) fun h7 => (lt (hR h7 this 19) fun r8 => (bd2 (pX13_readRow g h7 this) fun x11 h9 => (nn r8 fun a8 => (tg g a8 20 (ix (gL g a8) (p1 + 2) (lt (sI h9 a8 (Int32.toNatClampNeg (p1 + 2)) x11) fun h14 => (some h14))))))))))))
set_option maxRecDepth 10000 in
set_option maxHeartbeats 4000000 in
theorem pX13_readRest_b139_ok {X : Cx} {G : Gx} {dk : Nat} {g : MT} {h0 : CT} {this : Nat} {p1 : Int32} {p2 : Int32} (Z : Zx X G cX13_readRest RX13 3 dk none none g h0) (hK : 5 ≤ dk) (t0 : gT g this = 12) (h : CT) (hf : pX13_readRest_b139 g this p1 p2 h = some h0) : J X g h 139 [(0, va_rf (some this)), (1, .int p1)] [] := by
  unfold pX13_readRest_b139 at hf
  refine J_aload_n Z.1 0 dX13_readRest_139 rfl rfl ?_
  refine J_get (v := va_rf (hR h this 19)) Z.1 dX13_readRest_140 fl_X13_31 t0 rfl ?_
  refine J_tr (fun r1 er1 => ?_)
  replace hf := lt_i hf r1 er1
  refine J_iload_n Z.1 1 dX13_readRest_143 rfl rfl ?_
  refine J_iconst Z.1 (v := 1) (by decide) dX13_readRest_144 ?_
  refine J_iadd Z.1 dX13_readRest_145 ?_
  refine J_aload_n Z.1 0 dX13_readRest_146 rfl rfl ?_
  obtain ⟨x4, h2, q3, hf⟩ := bd2_i hf
  refine J_callV (ci := 11) (as := []) (rest := [.int (p1 + 1), va_rf r1]) (sy := [.int x4, .int (p1 + 1), va_rf r1]) Z.1 dX13_readRest_147 cw_X13_232 (pX13_readRow_ok G (dk - 1) (by omega) q3) rfl rfl t0 (zG Z) rfl (by simp [cat_i, cat_l, cat_d, cat_rf]) (zF Z (by omega)) (zO Z (by omega) (by decide)) (zM _) Z.2.1 Z.2.1 rfl rfl ?_
  obtain ⟨a1, rfl, hf⟩ := nn_i hf
  obtain ⟨t5, hf⟩ := tg_i hf
  obtain ⟨i6, hf⟩ := ix_i hf
  refine J_iastore Z.1 dX13_readRest_150 t5 i6 ?_
  refine J_th (fun h7 eh7 => ?_)
  replace hf := lt_i hf h7 eh7
  refine J_aload_n Z.1 0 dX13_readRest_151 rfl rfl ?_
  refine J_get (v := va_rf (hR h7 this 19)) Z.1 dX13_readRest_152 fl_X13_31 t0 rfl ?_
  refine J_tr (fun r8 er8 => ?_)
  replace hf := lt_i hf r8 er8
  refine J_iload_n Z.1 1 dX13_readRest_155 rfl rfl ?_
  refine J_iconst Z.1 (v := 2) (by decide) dX13_readRest_156 ?_
  refine J_iadd Z.1 dX13_readRest_157 ?_
  refine J_aload_n Z.1 0 dX13_readRest_158 rfl rfl ?_
  obtain ⟨x11, h9, q10, hf⟩ := bd2_i hf
  refine J_callV (ci := 11) (as := []) (rest := [.int (p1 + 2), va_rf r8]) (sy := [.int x11, .int (p1 + 2), va_rf r8]) Z.1 dX13_readRest_159 cw_X13_232 (pX13_readRow_ok G (dk - 1) (by omega) q10) rfl rfl t0 (zG Z) rfl (by simp [cat_i, cat_l, cat_d, cat_rf]) (zF Z (by omega)) (zO Z (by omega) (by decide)) (zM _) Z.2.1 Z.2.1 rfl rfl ?_
  obtain ⟨a8, rfl, hf⟩ := nn_i hf
  obtain ⟨t12, hf⟩ := tg_i hf
  obtain ⟨i13, hf⟩ := ix_i hf
  refine J_iastore Z.1 dX13_readRest_162 t12 i13 ?_
  refine J_th (fun h14 eh14 => ?_)
  replace hf := lt_i hf h14 eh14
  refine J_goto Z.1 248 dX13_readRest_163 (by decide) ?_
  cases hf
  exact J_vret Z.1 Z.2.2.2.2.2 dX13_readRest_248
def pX13_readRest_b199 (g : MT) (this : Nat) (p1 : Int32) (p2 : Int32) (h : CT) : Option CT := lt (hR h this 19) fun r1 => (bd2 (pX13_readScalar g h this) fun x4 h2 => (nn r1 fun a1 => (tg g a1 20 (ix (gL g a1) (p1 + 5) (lt (sI h2 a1 (Int32.toNatClampNeg (p1 + 5)) x4) fun h7 => (lt (hR h7 this 19) fun r8 => (bd2 (pX13_readRow g h7 this) fun x11 h9 => (nn r8 fun a8 => (tg g a8 20 (ix (gL g a8) (p1 + 1) (lt (sI h9 a8 (Int32.toNatClampNeg (p1 + 1)) x11) fun h14 => (some h14))))))))))))
set_option maxRecDepth 10000 in
set_option maxHeartbeats 4000000 in
theorem pX13_readRest_b199_ok {X : Cx} {G : Gx} {dk : Nat} {g : MT} {h0 : CT} {this : Nat} {p1 : Int32} {p2 : Int32} (Z : Zx X G cX13_readRest RX13 3 dk none none g h0) (hK : 5 ≤ dk) (t0 : gT g this = 12) (h : CT) (hf : pX13_readRest_b199 g this p1 p2 h = some h0) : J X g h 199 [(0, va_rf (some this)), (1, .int p1)] [] := by
  unfold pX13_readRest_b199 at hf
  refine J_aload_n Z.1 0 dX13_readRest_199 rfl rfl ?_
  refine J_get (v := va_rf (hR h this 19)) Z.1 dX13_readRest_200 fl_X13_31 t0 rfl ?_
  refine J_tr (fun r1 er1 => ?_)
  replace hf := lt_i hf r1 er1
  refine J_iload_n Z.1 1 dX13_readRest_203 rfl rfl ?_
  refine J_iconst Z.1 (v := 5) (by decide) dX13_readRest_204 ?_
  refine J_iadd Z.1 dX13_readRest_205 ?_
  refine J_aload_n Z.1 0 dX13_readRest_206 rfl rfl ?_
  obtain ⟨x4, h2, q3, hf⟩ := bd2_i hf
  refine J_callV (ci := 11) (as := []) (rest := [.int (p1 + 5), va_rf r1]) (sy := [.int x4, .int (p1 + 5), va_rf r1]) Z.1 dX13_readRest_207 cw_X13_247 (pX13_readScalar_ok G (dk - 1) (by omega) q3) rfl rfl t0 (zG Z) rfl (by simp [cat_i, cat_l, cat_d, cat_rf]) (zF Z (by omega)) (zO Z (by omega) (by decide)) (zM _) Z.2.1 Z.2.1 rfl rfl ?_
  obtain ⟨a1, rfl, hf⟩ := nn_i hf
  obtain ⟨t5, hf⟩ := tg_i hf
  obtain ⟨i6, hf⟩ := ix_i hf
  refine J_iastore Z.1 dX13_readRest_210 t5 i6 ?_
  refine J_th (fun h7 eh7 => ?_)
  replace hf := lt_i hf h7 eh7
  refine J_aload_n Z.1 0 dX13_readRest_211 rfl rfl ?_
  refine J_get (v := va_rf (hR h7 this 19)) Z.1 dX13_readRest_212 fl_X13_31 t0 rfl ?_
  refine J_tr (fun r8 er8 => ?_)
  replace hf := lt_i hf r8 er8
  refine J_iload_n Z.1 1 dX13_readRest_215 rfl rfl ?_
  refine J_iconst Z.1 (v := 1) (by decide) dX13_readRest_216 ?_
  refine J_iadd Z.1 dX13_readRest_217 ?_
  refine J_aload_n Z.1 0 dX13_readRest_218 rfl rfl ?_
  obtain ⟨x11, h9, q10, hf⟩ := bd2_i hf
  refine J_callV (ci := 11) (as := []) (rest := [.int (p1 + 1), va_rf r8]) (sy := [.int x11, .int (p1 + 1), va_rf r8]) Z.1 dX13_readRest_219 cw_X13_232 (pX13_readRow_ok G (dk - 1) (by omega) q10) rfl rfl t0 (zG Z) rfl (by simp [cat_i, cat_l, cat_d, cat_rf]) (zF Z (by omega)) (zO Z (by omega) (by decide)) (zM _) Z.2.1 Z.2.1 rfl rfl ?_
  obtain ⟨a8, rfl, hf⟩ := nn_i hf
  obtain ⟨t12, hf⟩ := tg_i hf
  obtain ⟨i13, hf⟩ := ix_i hf
  refine J_iastore Z.1 dX13_readRest_222 t12 i13 ?_
  refine J_th (fun h14 eh14 => ?_)
  replace hf := lt_i hf h14 eh14
  refine J_goto Z.1 248 dX13_readRest_223 (by decide) ?_
  cases hf
  exact J_vret Z.1 Z.2.2.2.2.2 dX13_readRest_248
def pX13_readRest_b121 (g : MT) (this : Nat) (p1 : Int32) (p2 : Int32) (h : CT) : Option CT := if p2 = 17 then pX13_readRest_b139 g this p1 p2  h else if p2 = 18 then pX13_readRest_b139 g this p1 p2  h else if p2 = 21 then pX13_readRest_b139 g this p1 p2  h else if p2 = 22 then lt (hR h this 19) fun r15 => (bd2 (pX13_readScalar g h this) fun x18 h16 => (nn r15 fun a15 => (tg g a15 20 (ix (gL g a15) (p1 + 5) (lt (sI h16 a15 (Int32.toNatClampNeg (p1 + 5)) x18) fun h21 => (some h21)))))) else if p2 = 23 then pX13_readRest_b199 g this p1 p2  h else if p2 = 24 then pX13_readRest_b199 g this p1 p2  h else if p2 = 25 then lt (hR h this 19) fun r8 => (bd2 (pX13_countOf g h this 0 200) fun x11 h9 => (nn r8 fun a8 => (tg g a8 20 (ix (gL g a8) (p1 + 4) (lt (sI h9 a8 (Int32.toNatClampNeg (p1 + 4)) x11) fun h14 => (some h14)))))) else some h
set_option maxRecDepth 10000 in
set_option maxHeartbeats 4000000 in
theorem pX13_readRest_b121_ok {X : Cx} {G : Gx} {dk : Nat} {g : MT} {h0 : CT} {this : Nat} {p1 : Int32} {p2 : Int32} (Z : Zx X G cX13_readRest RX13 3 dk none none g h0) (hK : 5 ≤ dk) (t0 : gT g this = 12) (h : CT) (hf : pX13_readRest_b121 g this p1 p2 h = some h0) : J X g h 121 [(0, va_rf (some this)), (1, .int p1), (2, .int p2)] [] := by
  unfold pX13_readRest_b121 at hf
  refine J_iload_n Z.1 2 dX13_readRest_121 rfl rfl ?_
  refine J_bipush Z.1 (v := 17) (by decide) dX13_readRest_122 ?_
  refine J_icmp_eq Z.1 139 dX13_readRest_124 (by decide) (fun c1 => ?_) (fun c1 => ?_)
  · rw [if_pos c1] at hf
    refine J_lv [0, 1] rfl ?_
    exact pX13_readRest_b139_ok Z hK t0  _ hf
  · rw [if_neg c1] at hf
    refine J_iload_n Z.1 2 dX13_readRest_127 rfl rfl ?_
    refine J_bipush Z.1 (v := 18) (by decide) dX13_readRest_128 ?_
    refine J_icmp_eq Z.1 139 dX13_readRest_130 (by decide) (fun c2 => ?_) (fun c2 => ?_)
    · rw [if_pos c2] at hf
      refine J_lv [0, 1] rfl ?_
      exact pX13_readRest_b139_ok Z hK t0  _ hf
    · rw [if_neg c2] at hf
      refine J_iload_n Z.1 2 dX13_readRest_133 rfl rfl ?_
      refine J_bipush Z.1 (v := 21) (by decide) dX13_readRest_134 ?_
      refine J_icmp_ne Z.1 166 dX13_readRest_136 (by decide) (fun c3 => ?_) (fun c3 => ?_)
      · rw [if_neg c3] at hf
        refine J_iload_n Z.1 2 dX13_readRest_166 rfl rfl ?_
        refine J_bipush Z.1 (v := 22) (by decide) dX13_readRest_167 ?_
        refine J_icmp_ne Z.1 187 dX13_readRest_169 (by decide) (fun c4 => ?_) (fun c4 => ?_)
        · rw [if_neg c4] at hf
          refine J_iload_n Z.1 2 dX13_readRest_187 rfl rfl ?_
          refine J_bipush Z.1 (v := 23) (by decide) dX13_readRest_188 ?_
          refine J_icmp_eq Z.1 199 dX13_readRest_190 (by decide) (fun c5 => ?_) (fun c5 => ?_)
          · rw [if_pos c5] at hf
            refine J_lv [0, 1] rfl ?_
            exact pX13_readRest_b199_ok Z hK t0  _ hf
          · rw [if_neg c5] at hf
            refine J_iload_n Z.1 2 dX13_readRest_193 rfl rfl ?_
            refine J_bipush Z.1 (v := 24) (by decide) dX13_readRest_194 ?_
            refine J_icmp_ne Z.1 226 dX13_readRest_196 (by decide) (fun c6 => ?_) (fun c6 => ?_)
            · rw [if_neg c6] at hf
              refine J_iload_n Z.1 2 dX13_readRest_226 rfl rfl ?_
              refine J_bipush Z.1 (v := 25) (by decide) dX13_readRest_227 ?_
              refine J_icmp_ne Z.1 248 dX13_readRest_229 (by decide) (fun c7 => ?_) (fun c7 => ?_)
              · rw [if_neg c7] at hf
                cases hf
                exact J_vret Z.1 Z.2.2.2.2.2 dX13_readRest_248
              · rw [if_pos c7] at hf
                refine J_aload_n Z.1 0 dX13_readRest_232 rfl rfl ?_
                refine J_get (v := va_rf (hR h this 19)) Z.1 dX13_readRest_233 fl_X13_31 t0 rfl ?_
                refine J_tr (fun r8 er8 => ?_)
                replace hf := lt_i hf r8 er8
                refine J_iload_n Z.1 1 dX13_readRest_236 rfl rfl ?_
                refine J_iconst Z.1 (v := 4) (by decide) dX13_readRest_237 ?_
                refine J_iadd Z.1 dX13_readRest_238 ?_
                refine J_aload_n Z.1 0 dX13_readRest_239 rfl rfl ?_
                refine J_iconst Z.1 (v := 0) (by decide) dX13_readRest_240 ?_
                refine J_sipush Z.1 (v := 200) (by decide) dX13_readRest_241 ?_
                obtain ⟨x11, h9, q10, hf⟩ := bd2_i hf
                refine J_callV (ci := 11) (as := [.int 0, .int 200]) (rest := [.int (p1 + 4), va_rf r8]) (sy := [.int x11, .int (p1 + 4), va_rf r8]) Z.1 dX13_readRest_244 cw_X13_222 (pX13_countOf_ok G (dk - 1) (by omega) q10) rfl rfl t0 (zG Z) rfl (by simp [cat_i, cat_l, cat_d, cat_rf]) (zF Z (by omega)) (zO Z (by omega) (by decide)) (zM _) Z.2.1 Z.2.1 rfl rfl ?_
                obtain ⟨a8, rfl, hf⟩ := nn_i hf
                obtain ⟨t12, hf⟩ := tg_i hf
                obtain ⟨i13, hf⟩ := ix_i hf
                refine J_iastore Z.1 dX13_readRest_247 t12 i13 ?_
                refine J_th (fun h14 eh14 => ?_)
                replace hf := lt_i hf h14 eh14
                cases hf
                exact J_vret Z.1 Z.2.2.2.2.2 dX13_readRest_248
            · rw [if_pos c6] at hf
              refine J_lv [0, 1] rfl ?_
              exact pX13_readRest_b199_ok Z hK t0  _ hf
        · rw [if_pos c4] at hf
          refine J_aload_n Z.1 0 dX13_readRest_172 rfl rfl ?_
          refine J_get (v := va_rf (hR h this 19)) Z.1 dX13_readRest_173 fl_X13_31 t0 rfl ?_
          refine J_tr (fun r15 er15 => ?_)
          replace hf := lt_i hf r15 er15
          refine J_iload_n Z.1 1 dX13_readRest_176 rfl rfl ?_
          refine J_iconst Z.1 (v := 5) (by decide) dX13_readRest_177 ?_
          refine J_iadd Z.1 dX13_readRest_178 ?_
          refine J_aload_n Z.1 0 dX13_readRest_179 rfl rfl ?_
          obtain ⟨x18, h16, q17, hf⟩ := bd2_i hf
          refine J_callV (ci := 11) (as := []) (rest := [.int (p1 + 5), va_rf r15]) (sy := [.int x18, .int (p1 + 5), va_rf r15]) Z.1 dX13_readRest_180 cw_X13_247 (pX13_readScalar_ok G (dk - 1) (by omega) q17) rfl rfl t0 (zG Z) rfl (by simp [cat_i, cat_l, cat_d, cat_rf]) (zF Z (by omega)) (zO Z (by omega) (by decide)) (zM _) Z.2.1 Z.2.1 rfl rfl ?_
          obtain ⟨a15, rfl, hf⟩ := nn_i hf
          obtain ⟨t19, hf⟩ := tg_i hf
          obtain ⟨i20, hf⟩ := ix_i hf
          refine J_iastore Z.1 dX13_readRest_183 t19 i20 ?_
          refine J_th (fun h21 eh21 => ?_)
          replace hf := lt_i hf h21 eh21
          refine J_goto Z.1 248 dX13_readRest_184 (by decide) ?_
          cases hf
          exact J_vret Z.1 Z.2.2.2.2.2 dX13_readRest_248
      · rw [if_pos c3] at hf
        refine J_lv [0, 1] rfl ?_
        exact pX13_readRest_b139_ok Z hK t0  _ hf
def pX13_readRest_b100 (g : MT) (this : Nat) (p1 : Int32) (p2 : Int32) (h : CT) : Option CT := if p2 < 7 then pX13_readRest_b121 g this p1 p2  h else if 16 < p2 then pX13_readRest_b121 g this p1 p2  h else bd (pX13_readReckoned g h this p1 p2) fun h3 => (some h3)
set_option maxRecDepth 10000 in
set_option maxHeartbeats 4000000 in
theorem pX13_readRest_b100_ok {X : Cx} {G : Gx} {dk : Nat} {g : MT} {h0 : CT} {this : Nat} {p1 : Int32} {p2 : Int32} (Z : Zx X G cX13_readRest RX13 3 dk none none g h0) (hK : 5 ≤ dk) (t0 : gT g this = 12) (h : CT) (hf : pX13_readRest_b100 g this p1 p2 h = some h0) : J X g h 100 [(0, va_rf (some this)), (1, .int p1), (2, .int p2)] [] := by
  unfold pX13_readRest_b100 at hf
  refine J_iload_n Z.1 2 dX13_readRest_100 rfl rfl ?_
  refine J_bipush Z.1 (v := 7) (by decide) dX13_readRest_101 ?_
  refine J_icmp_lt Z.1 121 dX13_readRest_103 (by decide) (fun c1 => ?_) (fun c1 => ?_)
  · rw [if_pos c1] at hf
    exact pX13_readRest_b121_ok Z hK t0  _ hf
  · rw [if_neg c1] at hf
    refine J_iload_n Z.1 2 dX13_readRest_106 rfl rfl ?_
    refine J_bipush Z.1 (v := 16) (by decide) dX13_readRest_107 ?_
    refine J_icmp_gt Z.1 121 dX13_readRest_109 (by decide) (fun c2 => ?_) (fun c2 => ?_)
    · rw [if_pos c2] at hf
      exact pX13_readRest_b121_ok Z hK t0  _ hf
    · rw [if_neg c2] at hf
      refine J_aload_n Z.1 0 dX13_readRest_112 rfl rfl ?_
      refine J_iload_n Z.1 1 dX13_readRest_113 rfl rfl ?_
      refine J_iload_n Z.1 2 dX13_readRest_114 rfl rfl ?_
      obtain ⟨h3, q4, hf⟩ := bd_i hf
      refine J_callV (ci := 11) (as := [.int p1, .int p2]) (rest := []) (sy := []) Z.1 dX13_readRest_115 cw_X13_253 (pX13_readReckoned_ok G (dk - 1) (by omega) q4) rfl rfl t0 (zG Z) rfl (by decide) (zF Z (by omega)) (zO Z (by omega) (by decide)) (zM _) Z.2.1 Z.2.1 rfl rfl ?_
      refine J_goto Z.1 248 dX13_readRest_118 (by decide) ?_
      cases hf
      exact J_vret Z.1 Z.2.2.2.2.2 dX13_readRest_248
def pX13_readRest (g : MT) (h : CT) (this : Nat) (p1 : Int32) (p2 : Int32) : Option CT := tg g this 12 (if p2 = 0 then lt (hR h this 19) fun r23 => (bd2 (pX13_countOf g h this 0 16) fun x26 h24 => (nn r23 fun a23 => (tg g a23 20 (ix (gL g a23) (p1 + 4) (lt (sI h24 a23 (Int32.toNatClampNeg (p1 + 4)) x26) fun h29 => (some h29)))))) else if p2 = 1 then pX13_readRest_b33 g this p1 p2  h else if p2 = 19 then pX13_readRest_b33 g this p1 p2  h else if p2 = 2 then lt (hR h this 19) fun r9 => (bd2 (pX13_readRow g h this) fun x12 h10 => (nn r9 fun a9 => (tg g a9 20 (ix (gL g a9) (p1 + 1) (lt (sI h10 a9 (Int32.toNatClampNeg (p1 + 1)) x12) fun h15 => (lt (hR h15 this 19) fun r16 => (bd2 (pX13_readScalar g h15 this) fun x19 h17 => (nn r16 fun a16 => (tg g a16 20 (ix (gL g a16) (p1 + 5) (lt (sI h17 a16 (Int32.toNatClampNeg (p1 + 5)) x19) fun h22 => (some h22)))))))))))) else if p2 < 3 then pX13_readRest_b100 g this p1 p2  h else if 6 < p2 then pX13_readRest_b100 g this p1 p2  h else bd (pX13_readMemory g h this p1 p2) fun h7 => (some h7))
set_option maxRecDepth 10000 in
set_option maxHeartbeats 4000000 in
theorem pX13_readRest_ok (G : Gx) (dk : Nat) (hK : 5 ≤ dk) {g : MT} {h h0 : CT} {this : Nat} {p1 : Int32} {p2 : Int32} (hf : pX13_readRest g h this p1 p2 = some h0) : Ctr G dk yX13_readRest cX13_readRest 3 none [va_rf (some this), .int p1, .int p2] g h none g h0 := by
  refine Ctr.ofZ (lv := [(0, va_rf (some this)), (1, .int p1), (2, .int p2)]) (by decide +kernel) (by simp [cat_i, cat_l, cat_d, cat_rf]) rfl fun X Z => ?_
  unfold pX13_readRest at hf
  obtain ⟨t0, hf⟩ := tg_i hf
  refine J_iload_n Z.1 2 dX13_readRest_0 rfl rfl ?_
  refine J_if_ne Z.1 22 dX13_readRest_1 (by decide) (fun c1 => ?_) (fun c1 => ?_)
  · rw [if_neg c1] at hf
    refine J_iload_n Z.1 2 dX13_readRest_22 rfl rfl ?_
    refine J_iconst Z.1 (v := 1) (by decide) dX13_readRest_23 ?_
    refine J_icmp_eq Z.1 33 dX13_readRest_24 (by decide) (fun c2 => ?_) (fun c2 => ?_)
    · rw [if_pos c2] at hf
      refine J_lv [0, 1] rfl ?_
      exact pX13_readRest_b33_ok Z hK t0  _ hf
    · rw [if_neg c2] at hf
      refine J_iload_n Z.1 2 dX13_readRest_27 rfl rfl ?_
      refine J_bipush Z.1 (v := 19) (by decide) dX13_readRest_28 ?_
      refine J_icmp_ne Z.1 48 dX13_readRest_30 (by decide) (fun c3 => ?_) (fun c3 => ?_)
      · rw [if_neg c3] at hf
        refine J_iload_n Z.1 2 dX13_readRest_48 rfl rfl ?_
        refine J_iconst Z.1 (v := 2) (by decide) dX13_readRest_49 ?_
        refine J_icmp_ne Z.1 80 dX13_readRest_50 (by decide) (fun c4 => ?_) (fun c4 => ?_)
        · rw [if_neg c4] at hf
          refine J_iload_n Z.1 2 dX13_readRest_80 rfl rfl ?_
          refine J_iconst Z.1 (v := 3) (by decide) dX13_readRest_81 ?_
          refine J_icmp_lt Z.1 100 dX13_readRest_82 (by decide) (fun c5 => ?_) (fun c5 => ?_)
          · rw [if_pos c5] at hf
            exact pX13_readRest_b100_ok Z hK t0  _ hf
          · rw [if_neg c5] at hf
            refine J_iload_n Z.1 2 dX13_readRest_85 rfl rfl ?_
            refine J_bipush Z.1 (v := 6) (by decide) dX13_readRest_86 ?_
            refine J_icmp_gt Z.1 100 dX13_readRest_88 (by decide) (fun c6 => ?_) (fun c6 => ?_)
            · rw [if_pos c6] at hf
              exact pX13_readRest_b100_ok Z hK t0  _ hf
            · rw [if_neg c6] at hf
              refine J_aload_n Z.1 0 dX13_readRest_91 rfl rfl ?_
              refine J_iload_n Z.1 1 dX13_readRest_92 rfl rfl ?_
              refine J_iload_n Z.1 2 dX13_readRest_93 rfl rfl ?_
              obtain ⟨h7, q8, hf⟩ := bd_i hf
              refine J_callV (ci := 11) (as := [.int p1, .int p2]) (rest := []) (sy := []) Z.1 dX13_readRest_94 cw_X13_250 (pX13_readMemory_ok G (dk - 1) (by omega) q8) rfl rfl t0 (zG Z) rfl (by decide) (zF Z (by omega)) (zO Z (by omega) (by decide)) (zM _) Z.2.1 Z.2.1 rfl rfl ?_
              refine J_goto Z.1 248 dX13_readRest_97 (by decide) ?_
              cases hf
              exact J_vret Z.1 Z.2.2.2.2.2 dX13_readRest_248
        · rw [if_pos c4] at hf
          refine J_aload_n Z.1 0 dX13_readRest_53 rfl rfl ?_
          refine J_get (v := va_rf (hR h this 19)) Z.1 dX13_readRest_54 fl_X13_31 t0 rfl ?_
          refine J_tr (fun r9 er9 => ?_)
          replace hf := lt_i hf r9 er9
          refine J_iload_n Z.1 1 dX13_readRest_57 rfl rfl ?_
          refine J_iconst Z.1 (v := 1) (by decide) dX13_readRest_58 ?_
          refine J_iadd Z.1 dX13_readRest_59 ?_
          refine J_aload_n Z.1 0 dX13_readRest_60 rfl rfl ?_
          obtain ⟨x12, h10, q11, hf⟩ := bd2_i hf
          refine J_callV (ci := 11) (as := []) (rest := [.int (p1 + 1), va_rf r9]) (sy := [.int x12, .int (p1 + 1), va_rf r9]) Z.1 dX13_readRest_61 cw_X13_232 (pX13_readRow_ok G (dk - 1) (by omega) q11) rfl rfl t0 (zG Z) rfl (by simp [cat_i, cat_l, cat_d, cat_rf]) (zF Z (by omega)) (zO Z (by omega) (by decide)) (zM _) Z.2.1 Z.2.1 rfl rfl ?_
          obtain ⟨a9, rfl, hf⟩ := nn_i hf
          obtain ⟨t13, hf⟩ := tg_i hf
          obtain ⟨i14, hf⟩ := ix_i hf
          refine J_iastore Z.1 dX13_readRest_64 t13 i14 ?_
          refine J_th (fun h15 eh15 => ?_)
          replace hf := lt_i hf h15 eh15
          refine J_aload_n Z.1 0 dX13_readRest_65 rfl rfl ?_
          refine J_get (v := va_rf (hR h15 this 19)) Z.1 dX13_readRest_66 fl_X13_31 t0 rfl ?_
          refine J_tr (fun r16 er16 => ?_)
          replace hf := lt_i hf r16 er16
          refine J_iload_n Z.1 1 dX13_readRest_69 rfl rfl ?_
          refine J_iconst Z.1 (v := 5) (by decide) dX13_readRest_70 ?_
          refine J_iadd Z.1 dX13_readRest_71 ?_
          refine J_aload_n Z.1 0 dX13_readRest_72 rfl rfl ?_
          obtain ⟨x19, h17, q18, hf⟩ := bd2_i hf
          refine J_callV (ci := 11) (as := []) (rest := [.int (p1 + 5), va_rf r16]) (sy := [.int x19, .int (p1 + 5), va_rf r16]) Z.1 dX13_readRest_73 cw_X13_247 (pX13_readScalar_ok G (dk - 1) (by omega) q18) rfl rfl t0 (zG Z) rfl (by simp [cat_i, cat_l, cat_d, cat_rf]) (zF Z (by omega)) (zO Z (by omega) (by decide)) (zM _) Z.2.1 Z.2.1 rfl rfl ?_
          obtain ⟨a16, rfl, hf⟩ := nn_i hf
          obtain ⟨t20, hf⟩ := tg_i hf
          obtain ⟨i21, hf⟩ := ix_i hf
          refine J_iastore Z.1 dX13_readRest_76 t20 i21 ?_
          refine J_th (fun h22 eh22 => ?_)
          replace hf := lt_i hf h22 eh22
          refine J_goto Z.1 248 dX13_readRest_77 (by decide) ?_
          cases hf
          exact J_vret Z.1 Z.2.2.2.2.2 dX13_readRest_248
      · rw [if_pos c3] at hf
        refine J_lv [0, 1] rfl ?_
        exact pX13_readRest_b33_ok Z hK t0  _ hf
  · rw [if_pos c1] at hf
    refine J_aload_n Z.1 0 dX13_readRest_4 rfl rfl ?_
    refine J_get (v := va_rf (hR h this 19)) Z.1 dX13_readRest_5 fl_X13_31 t0 rfl ?_
    refine J_tr (fun r23 er23 => ?_)
    replace hf := lt_i hf r23 er23
    refine J_iload_n Z.1 1 dX13_readRest_8 rfl rfl ?_
    refine J_iconst Z.1 (v := 4) (by decide) dX13_readRest_9 ?_
    refine J_iadd Z.1 dX13_readRest_10 ?_
    refine J_aload_n Z.1 0 dX13_readRest_11 rfl rfl ?_
    refine J_iconst Z.1 (v := 0) (by decide) dX13_readRest_12 ?_
    refine J_bipush Z.1 (v := 16) (by decide) dX13_readRest_13 ?_
    obtain ⟨x26, h24, q25, hf⟩ := bd2_i hf
    refine J_callV (ci := 11) (as := [.int 0, .int 16]) (rest := [.int (p1 + 4), va_rf r23]) (sy := [.int x26, .int (p1 + 4), va_rf r23]) Z.1 dX13_readRest_15 cw_X13_222 (pX13_countOf_ok G (dk - 1) (by omega) q25) rfl rfl t0 (zG Z) rfl (by simp [cat_i, cat_l, cat_d, cat_rf]) (zF Z (by omega)) (zO Z (by omega) (by decide)) (zM _) Z.2.1 Z.2.1 rfl rfl ?_
    obtain ⟨a23, rfl, hf⟩ := nn_i hf
    obtain ⟨t27, hf⟩ := tg_i hf
    obtain ⟨i28, hf⟩ := ix_i hf
    refine J_iastore Z.1 dX13_readRest_18 t27 i28 ?_
    refine J_th (fun h29 eh29 => ?_)
    replace hf := lt_i hf h29 eh29
    refine J_goto Z.1 248 dX13_readRest_19 (by decide) ?_
    cases hf
    exact J_vret Z.1 Z.2.2.2.2.2 dX13_readRest_248
theorem dX13_isRow_0 : decode cX13_isRow 0 = .ok (.iload_n 0, 1) := by decide +kernel
theorem dX13_isRow_1 : decode cX13_isRow 1 = .ok (.i2l, 1) := by decide +kernel
theorem dX13_isRow_2 : decode cX13_isRow 2 = .ok (.lconst 0, 1) := by decide +kernel
theorem dX13_isRow_3 : decode cX13_isRow 3 = .ok (.ldc2_w 275, 3) := by decide +kernel
theorem dX13_isRow_6 : decode cX13_isRow 6 = .ok (.invokestatic 104, 3) := by decide +kernel
theorem dX13_isRow_9 : decode cX13_isRow 9 = .ok (.ireturn, 1) := by decide +kernel
def pX13_isRow (p0 : Int32) : Int32 := (pX13_isIn (Int32.toInt64 p0) 0 5)
set_option maxRecDepth 10000 in
set_option maxHeartbeats 4000000 in
theorem pX13_isRow_ok (G : Gx) (dk : Nat) (hK : 1 ≤ dk) (g : MT) (h0 : CT) (p0 : Int32) : Ctr G dk yX13_isRow cX13_isRow 1 (some .boolean) [.int p0] g h0 (some (.int (pX13_isRow p0))) g h0 := by
  obtain ⟨r0, hf⟩ : ∃ z, pX13_isRow p0 = z := ⟨_, rfl⟩
  rw [hf]
  refine Ctr.ofZ (lv := [(0, .int p0)]) (by decide +kernel) (by simp [cat_i, cat_l, cat_d, cat_rf]) rfl fun X Z => ?_
  unfold pX13_isRow at hf
  refine J_iload_n Z.1 0 dX13_isRow_0 rfl rfl ?_
  refine J_i2l Z.1 dX13_isRow_1 ?_
  refine J_lconst Z.1 (v := 0) (by decide) dX13_isRow_2 ?_
  refine J_ldc2 Z.1 q_1749 dX13_isRow_3 ?_
  refine J_callS (as := [.long (Int32.toInt64 p0), .long 0, .long 5]) (rest := []) (sy := [.int (pX13_isIn (Int32.toInt64 p0) 0 5)]) Z.1 dX13_isRow_6 cw_X13_104 (pX13_isIn_ok G (dk - 1) (by omega) g h0 (Int32.toInt64 p0) 0 5) (zG Z) rfl (by decide) (zF Z (by omega)) (zO Z (by omega) (by decide)) (zM _) Z.2.1 Z.2.1 rfl rfl ?_
  cases hf
  exact J_zret Z.1 Z.2.2.2.2.2 (z_n (pX13_isIn_z (Int32.toInt64 p0) 0 5)) dX13_isRow_9
theorem pX13_isRow_z (p0 : Int32) : is01 (pX13_isRow p0) := by
  unfold pX13_isRow
  (try split) <;> (try split) <;> (try split) <;> (try split) <;> (try split) <;> (try split) <;> (try split) <;> (try split) <;> first | exact Or.inl rfl | exact Or.inr rfl | exact pX13_isIn_z _ _ _
theorem dX13_isElement_0 : decode cX13_isElement 0 = .ok (.iload_n 0, 1) := by decide +kernel
theorem dX13_isElement_1 : decode cX13_isElement 1 = .ok (.i2l, 1) := by decide +kernel
theorem dX13_isElement_2 : decode cX13_isElement 2 = .ok (.lconst 0, 1) := by decide +kernel
theorem dX13_isElement_3 : decode cX13_isElement 3 = .ok (.ldc2_w 277, 3) := by decide +kernel
theorem dX13_isElement_6 : decode cX13_isElement 6 = .ok (.invokestatic 104, 3) := by decide +kernel
theorem dX13_isElement_9 : decode cX13_isElement 9 = .ok (.ireturn, 1) := by decide +kernel
def pX13_isElement (p0 : Int32) : Int32 := (pX13_isIn (Int32.toInt64 p0) 0 15)
set_option maxRecDepth 10000 in
set_option maxHeartbeats 4000000 in
theorem pX13_isElement_ok (G : Gx) (dk : Nat) (hK : 1 ≤ dk) (g : MT) (h0 : CT) (p0 : Int32) : Ctr G dk yX13_isElement cX13_isElement 1 (some .boolean) [.int p0] g h0 (some (.int (pX13_isElement p0))) g h0 := by
  obtain ⟨r0, hf⟩ : ∃ z, pX13_isElement p0 = z := ⟨_, rfl⟩
  rw [hf]
  refine Ctr.ofZ (lv := [(0, .int p0)]) (by decide +kernel) (by simp [cat_i, cat_l, cat_d, cat_rf]) rfl fun X Z => ?_
  unfold pX13_isElement at hf
  refine J_iload_n Z.1 0 dX13_isElement_0 rfl rfl ?_
  refine J_i2l Z.1 dX13_isElement_1 ?_
  refine J_lconst Z.1 (v := 0) (by decide) dX13_isElement_2 ?_
  refine J_ldc2 Z.1 q_1760 dX13_isElement_3 ?_
  refine J_callS (as := [.long (Int32.toInt64 p0), .long 0, .long 15]) (rest := []) (sy := [.int (pX13_isIn (Int32.toInt64 p0) 0 15)]) Z.1 dX13_isElement_6 cw_X13_104 (pX13_isIn_ok G (dk - 1) (by omega) g h0 (Int32.toInt64 p0) 0 15) (zG Z) rfl (by decide) (zF Z (by omega)) (zO Z (by omega) (by decide)) (zM _) Z.2.1 Z.2.1 rfl rfl ?_
  cases hf
  exact J_zret Z.1 Z.2.2.2.2.2 (z_n (pX13_isIn_z (Int32.toInt64 p0) 0 15)) dX13_isElement_9
theorem pX13_isElement_z (p0 : Int32) : is01 (pX13_isElement p0) := by
  unfold pX13_isElement
  (try split) <;> (try split) <;> (try split) <;> (try split) <;> (try split) <;> (try split) <;> (try split) <;> (try split) <;> first | exact Or.inl rfl | exact Or.inr rfl | exact pX13_isIn_z _ _ _
theorem dX13_isScalar_0 : decode cX13_isScalar 0 = .ok (.iload_n 0, 1) := by decide +kernel
theorem dX13_isScalar_1 : decode cX13_isScalar 1 = .ok (.i2l, 1) := by decide +kernel
theorem dX13_isScalar_2 : decode cX13_isScalar 2 = .ok (.lconst 0, 1) := by decide +kernel
theorem dX13_isScalar_3 : decode cX13_isScalar 3 = .ok (.ldc2_w 102, 3) := by decide +kernel
theorem dX13_isScalar_6 : decode cX13_isScalar 6 = .ok (.invokestatic 104, 3) := by decide +kernel
theorem dX13_isScalar_9 : decode cX13_isScalar 9 = .ok (.ireturn, 1) := by decide +kernel
def pX13_isScalar (p0 : Int32) : Int32 := (pX13_isIn (Int32.toInt64 p0) 0 3)
set_option maxRecDepth 10000 in
set_option maxHeartbeats 4000000 in
theorem pX13_isScalar_ok (G : Gx) (dk : Nat) (hK : 1 ≤ dk) (g : MT) (h0 : CT) (p0 : Int32) : Ctr G dk yX13_isScalar cX13_isScalar 1 (some .boolean) [.int p0] g h0 (some (.int (pX13_isScalar p0))) g h0 := by
  obtain ⟨r0, hf⟩ : ∃ z, pX13_isScalar p0 = z := ⟨_, rfl⟩
  rw [hf]
  refine Ctr.ofZ (lv := [(0, .int p0)]) (by decide +kernel) (by simp [cat_i, cat_l, cat_d, cat_rf]) rfl fun X Z => ?_
  unfold pX13_isScalar at hf
  refine J_iload_n Z.1 0 dX13_isScalar_0 rfl rfl ?_
  refine J_i2l Z.1 dX13_isScalar_1 ?_
  refine J_lconst Z.1 (v := 0) (by decide) dX13_isScalar_2 ?_
  refine J_ldc2 Z.1 q_1782 dX13_isScalar_3 ?_
  refine J_callS (as := [.long (Int32.toInt64 p0), .long 0, .long 3]) (rest := []) (sy := [.int (pX13_isIn (Int32.toInt64 p0) 0 3)]) Z.1 dX13_isScalar_6 cw_X13_104 (pX13_isIn_ok G (dk - 1) (by omega) g h0 (Int32.toInt64 p0) 0 3) (zG Z) rfl (by decide) (zF Z (by omega)) (zO Z (by omega) (by decide)) (zM _) Z.2.1 Z.2.1 rfl rfl ?_
  cases hf
  exact J_zret Z.1 Z.2.2.2.2.2 (z_n (pX13_isIn_z (Int32.toInt64 p0) 0 3)) dX13_isScalar_9
theorem pX13_isScalar_z (p0 : Int32) : is01 (pX13_isScalar p0) := by
  unfold pX13_isScalar
  (try split) <;> (try split) <;> (try split) <;> (try split) <;> (try split) <;> (try split) <;> (try split) <;> (try split) <;> first | exact Or.inl rfl | exact Or.inr rfl | exact pX13_isIn_z _ _ _
theorem dX13_isWordAt_0 : decode cX13_isWordAt 0 = .ok (.iload_n 0, 1) := by decide +kernel
theorem dX13_isWordAt_1 : decode cX13_isWordAt 1 = .ok (.i2l, 1) := by decide +kernel
theorem dX13_isWordAt_2 : decode cX13_isWordAt 2 = .ok (.lconst 0, 1) := by decide +kernel
theorem dX13_isWordAt_3 : decode cX13_isWordAt 3 = .ok (.ldc2_w 279, 3) := by decide +kernel
theorem dX13_isWordAt_6 : decode cX13_isWordAt 6 = .ok (.invokestatic 104, 3) := by decide +kernel
theorem dX13_isWordAt_9 : decode cX13_isWordAt 9 = .ok (.ireturn, 1) := by decide +kernel
def pX13_isWordAt (p0 : Int32) : Int32 := (pX13_isIn (Int32.toInt64 p0) 0 63)
set_option maxRecDepth 10000 in
set_option maxHeartbeats 4000000 in
theorem pX13_isWordAt_ok (G : Gx) (dk : Nat) (hK : 1 ≤ dk) (g : MT) (h0 : CT) (p0 : Int32) : Ctr G dk yX13_isWordAt cX13_isWordAt 1 (some .boolean) [.int p0] g h0 (some (.int (pX13_isWordAt p0))) g h0 := by
  obtain ⟨r0, hf⟩ : ∃ z, pX13_isWordAt p0 = z := ⟨_, rfl⟩
  rw [hf]
  refine Ctr.ofZ (lv := [(0, .int p0)]) (by decide +kernel) (by simp [cat_i, cat_l, cat_d, cat_rf]) rfl fun X Z => ?_
  unfold pX13_isWordAt at hf
  refine J_iload_n Z.1 0 dX13_isWordAt_0 rfl rfl ?_
  refine J_i2l Z.1 dX13_isWordAt_1 ?_
  refine J_lconst Z.1 (v := 0) (by decide) dX13_isWordAt_2 ?_
  refine J_ldc2 Z.1 q_1790 dX13_isWordAt_3 ?_
  refine J_callS (as := [.long (Int32.toInt64 p0), .long 0, .long 63]) (rest := []) (sy := [.int (pX13_isIn (Int32.toInt64 p0) 0 63)]) Z.1 dX13_isWordAt_6 cw_X13_104 (pX13_isIn_ok G (dk - 1) (by omega) g h0 (Int32.toInt64 p0) 0 63) (zG Z) rfl (by decide) (zF Z (by omega)) (zO Z (by omega) (by decide)) (zM _) Z.2.1 Z.2.1 rfl rfl ?_
  cases hf
  exact J_zret Z.1 Z.2.2.2.2.2 (z_n (pX13_isIn_z (Int32.toInt64 p0) 0 63)) dX13_isWordAt_9
theorem pX13_isWordAt_z (p0 : Int32) : is01 (pX13_isWordAt p0) := by
  unfold pX13_isWordAt
  (try split) <;> (try split) <;> (try split) <;> (try split) <;> (try split) <;> (try split) <;> (try split) <;> (try split) <;> first | exact Or.inl rfl | exact Or.inr rfl | exact pX13_isIn_z _ _ _
theorem dX13_isCode_0 : decode cX13_isCode 0 = .ok (.iload_n 1, 1) := by decide +kernel
theorem dX13_isCode_1 : decode cX13_isCode 1 = .ok (.i2l, 1) := by decide +kernel
theorem dX13_isCode_2 : decode cX13_isCode 2 = .ok (.lconst 0, 1) := by decide +kernel
theorem dX13_isCode_3 : decode cX13_isCode 3 = .ok (.aload_n 0, 1) := by decide +kernel
theorem dX13_isCode_4 : decode cX13_isCode 4 = .ok (.getfield 31, 3) := by decide +kernel
theorem dX13_isCode_7 : decode cX13_isCode 7 = .ok (.iconst 5, 1) := by decide +kernel
theorem dX13_isCode_8 : decode cX13_isCode 8 = .ok (.iaload, 1) := by decide +kernel
theorem dX13_isCode_9 : decode cX13_isCode 9 = .ok (.iconst 1, 1) := by decide +kernel
theorem dX13_isCode_10 : decode cX13_isCode 10 = .ok (.isub, 1) := by decide +kernel
theorem dX13_isCode_11 : decode cX13_isCode 11 = .ok (.i2l, 1) := by decide +kernel
theorem dX13_isCode_12 : decode cX13_isCode 12 = .ok (.invokestatic 104, 3) := by decide +kernel
theorem dX13_isCode_15 : decode cX13_isCode 15 = .ok (.ireturn, 1) := by decide +kernel
def pX13_isCode (g : MT) (h : CT) (this : Nat) (p1 : Int32) : Option Int32 := tg g this 12 (lt (hR h this 19) fun r1 => (nn r1 fun a1 => (tg g a1 20 (ix (gL g a1) 5 (some (pX13_isIn (Int32.toInt64 p1) 0 (Int32.toInt64 ((hI h a1 (Int32.toNatClampNeg 5)) - 1))))))))
set_option maxRecDepth 10000 in
set_option maxHeartbeats 4000000 in
theorem pX13_isCode_ok (G : Gx) (dk : Nat) (hK : 1 ≤ dk) {g : MT} {h : CT} {this : Nat} {p1 : Int32} {r0 : Int32} (hf : pX13_isCode g h this p1 = some r0) : Ctr G dk yX13_isCode cX13_isCode 2 (some .boolean) [va_rf (some this), .int p1] g h (some (.int r0)) g h := by
  refine Ctr.ofZ (lv := [(0, va_rf (some this)), (1, .int p1)]) (by decide +kernel) (by simp [cat_i, cat_l, cat_d, cat_rf]) rfl fun X Z => ?_
  unfold pX13_isCode at hf
  obtain ⟨t0, hf⟩ := tg_i hf
  refine J_iload_n Z.1 1 dX13_isCode_0 rfl rfl ?_
  refine J_i2l Z.1 dX13_isCode_1 ?_
  refine J_lconst Z.1 (v := 0) (by decide) dX13_isCode_2 ?_
  refine J_aload_n Z.1 0 dX13_isCode_3 rfl rfl ?_
  refine J_get (v := va_rf (hR h this 19)) Z.1 dX13_isCode_4 fl_X13_31 t0 rfl ?_
  refine J_tr (fun r1 er1 => ?_)
  replace hf := lt_i hf r1 er1
  refine J_iconst Z.1 (v := 5) (by decide) dX13_isCode_7 ?_
  obtain ⟨a1, rfl, hf⟩ := nn_i hf
  obtain ⟨t2, hf⟩ := tg_i hf
  obtain ⟨i3, hf⟩ := ix_i hf
  refine J_iaload Z.1 dX13_isCode_8 t2 i3 ?_
  refine J_iconst Z.1 (v := 1) (by decide) dX13_isCode_9 ?_
  refine J_isub Z.1 dX13_isCode_10 ?_
  refine J_i2l Z.1 dX13_isCode_11 ?_
  refine J_callS (as := [.long (Int32.toInt64 p1), .long 0, .long (Int32.toInt64 ((hI h a1 (Int32.toNatClampNeg 5)) - 1))]) (rest := []) (sy := [.int (pX13_isIn (Int32.toInt64 p1) 0 (Int32.toInt64 ((hI h a1 (Int32.toNatClampNeg 5)) - 1)))]) Z.1 dX13_isCode_12 cw_X13_104 (pX13_isIn_ok G (dk - 1) (by omega) g h (Int32.toInt64 p1) 0 (Int32.toInt64 ((hI h a1 (Int32.toNatClampNeg 5)) - 1))) (zG Z) rfl (by decide) (zF Z (by omega)) (zO Z (by omega) (by decide)) (zM _) Z.2.1 Z.2.1 rfl rfl ?_
  cases hf
  exact J_zret Z.1 Z.2.2.2.2.2 (z_n (pX13_isIn_z (Int32.toInt64 p1) 0 (Int32.toInt64 ((hI h a1 (Int32.toNatClampNeg 5)) - 1)))) dX13_isCode_15
