/-! written by wip/whole/gen.py out of the printed bytecode -/
theorem dX13_takenAt_0 : decode cX13_takenAt 0 = .ok (.aload_n 0, 1) := by decide +kernel
theorem dX13_takenAt_1 : decode cX13_takenAt 1 = .ok (.iload_n 1, 1) := by decide +kernel
theorem dX13_takenAt_2 : decode cX13_takenAt 2 = .ok (.iconst 0, 1) := by decide +kernel
theorem dX13_takenAt_3 : decode cX13_takenAt 3 = .ok (.invokevirtual 381, 3) := by decide +kernel
theorem dX13_takenAt_6 : decode cX13_takenAt 6 = .ok (.istore 5, 2) := by decide +kernel
theorem dX13_takenAt_8 : decode cX13_takenAt 8 = .ok (.iload_n 3, 1) := by decide +kernel
theorem dX13_takenAt_9 : decode cX13_takenAt 9 = .ok (.iload 4, 2) := by decide +kernel
theorem dX13_takenAt_11 : decode cX13_takenAt 11 = .ok (.iconst 1, 1) := by decide +kernel
theorem dX13_takenAt_12 : decode cX13_takenAt 12 = .ok (.iadd, 1) := by decide +kernel
theorem dX13_takenAt_13 : decode cX13_takenAt 13 = .ok (.invokestatic 178, 3) := by decide +kernel
theorem dX13_takenAt_16 : decode cX13_takenAt 16 = .ok (.istore 6, 2) := by decide +kernel
theorem dX13_takenAt_18 : decode cX13_takenAt 18 = .ok (.iload 5, 2) := by decide +kernel
theorem dX13_takenAt_20 : decode cX13_takenAt 20 = .ok (.invokestatic 383, 3) := by decide +kernel
theorem dX13_takenAt_23 : decode cX13_takenAt 23 = .ok (.ifCond .eq 18, 3) := by decide +kernel
theorem dX13_takenAt_26 : decode cX13_takenAt 26 = .ok (.aload_n 0, 1) := by decide +kernel
theorem dX13_takenAt_27 : decode cX13_takenAt 27 = .ok (.aload_n 0, 1) := by decide +kernel
theorem dX13_takenAt_28 : decode cX13_takenAt 28 = .ok (.iload_n 1, 1) := by decide +kernel
theorem dX13_takenAt_29 : decode cX13_takenAt 29 = .ok (.iconst 2, 1) := by decide +kernel
theorem dX13_takenAt_30 : decode cX13_takenAt 30 = .ok (.invokevirtual 381, 3) := by decide +kernel
theorem dX13_takenAt_33 : decode cX13_takenAt 33 = .ok (.iload_n 2, 1) := by decide +kernel
theorem dX13_takenAt_34 : decode cX13_takenAt 34 = .ok (.iload 6, 2) := by decide +kernel
theorem dX13_takenAt_36 : decode cX13_takenAt 36 = .ok (.invokevirtual 435, 3) := by decide +kernel
theorem dX13_takenAt_39 : decode cX13_takenAt 39 = .ok (.istore 6, 2) := by decide +kernel
theorem dX13_takenAt_41 : decode cX13_takenAt 41 = .ok (.iload 5, 2) := by decide +kernel
theorem dX13_takenAt_43 : decode cX13_takenAt 43 = .ok (.invokestatic 389, 3) := by decide +kernel
theorem dX13_takenAt_46 : decode cX13_takenAt 46 = .ok (.ifCond .eq 18, 3) := by decide +kernel
theorem dX13_takenAt_49 : decode cX13_takenAt 49 = .ok (.aload_n 0, 1) := by decide +kernel
theorem dX13_takenAt_50 : decode cX13_takenAt 50 = .ok (.aload_n 0, 1) := by decide +kernel
theorem dX13_takenAt_51 : decode cX13_takenAt 51 = .ok (.iload_n 1, 1) := by decide +kernel
theorem dX13_takenAt_52 : decode cX13_takenAt 52 = .ok (.iconst 3, 1) := by decide +kernel
theorem dX13_takenAt_53 : decode cX13_takenAt 53 = .ok (.invokevirtual 381, 3) := by decide +kernel
theorem dX13_takenAt_56 : decode cX13_takenAt 56 = .ok (.iload_n 2, 1) := by decide +kernel
theorem dX13_takenAt_57 : decode cX13_takenAt 57 = .ok (.iload 6, 2) := by decide +kernel
theorem dX13_takenAt_59 : decode cX13_takenAt 59 = .ok (.invokevirtual 435, 3) := by decide +kernel
theorem dX13_takenAt_62 : decode cX13_takenAt 62 = .ok (.istore 6, 2) := by decide +kernel
theorem dX13_takenAt_64 : decode cX13_takenAt 64 = .ok (.iload 5, 2) := by decide +kernel
theorem dX13_takenAt_66 : decode cX13_takenAt 66 = .ok (.invokestatic 392, 3) := by decide +kernel
theorem dX13_takenAt_69 : decode cX13_takenAt 69 = .ok (.ifCond .eq 18, 3) := by decide +kernel
theorem dX13_takenAt_72 : decode cX13_takenAt 72 = .ok (.aload_n 0, 1) := by decide +kernel
theorem dX13_takenAt_73 : decode cX13_takenAt 73 = .ok (.aload_n 0, 1) := by decide +kernel
theorem dX13_takenAt_74 : decode cX13_takenAt 74 = .ok (.iload_n 1, 1) := by decide +kernel
theorem dX13_takenAt_75 : decode cX13_takenAt 75 = .ok (.iconst 1, 1) := by decide +kernel
theorem dX13_takenAt_76 : decode cX13_takenAt 76 = .ok (.invokevirtual 381, 3) := by decide +kernel
theorem dX13_takenAt_79 : decode cX13_takenAt 79 = .ok (.iload_n 2, 1) := by decide +kernel
theorem dX13_takenAt_80 : decode cX13_takenAt 80 = .ok (.iload 6, 2) := by decide +kernel
theorem dX13_takenAt_82 : decode cX13_takenAt 82 = .ok (.invokevirtual 435, 3) := by decide +kernel
theorem dX13_takenAt_85 : decode cX13_takenAt 85 = .ok (.istore 6, 2) := by decide +kernel
theorem dX13_takenAt_87 : decode cX13_takenAt 87 = .ok (.iload 5, 2) := by decide +kernel
theorem dX13_takenAt_89 : decode cX13_takenAt 89 = .ok (.invokestatic 363, 3) := by decide +kernel
theorem dX13_takenAt_92 : decode cX13_takenAt 92 = .ok (.ifCond .eq 51, 3) := by decide +kernel
theorem dX13_takenAt_95 : decode cX13_takenAt 95 = .ok (.bipush 16, 2) := by decide +kernel
theorem dX13_takenAt_97 : decode cX13_takenAt 97 = .ok (.aload_n 0, 1) := by decide +kernel
theorem dX13_takenAt_98 : decode cX13_takenAt 98 = .ok (.iload_n 1, 1) := by decide +kernel
theorem dX13_takenAt_99 : decode cX13_takenAt 99 = .ok (.iconst 1, 1) := by decide +kernel
theorem dX13_takenAt_100 : decode cX13_takenAt 100 = .ok (.invokevirtual 381, 3) := by decide +kernel
theorem dX13_takenAt_103 : decode cX13_takenAt 103 = .ok (.imul, 1) := by decide +kernel
theorem dX13_takenAt_104 : decode cX13_takenAt 104 = .ok (.iload_n 2, 1) := by decide +kernel
theorem dX13_takenAt_105 : decode cX13_takenAt 105 = .ok (.iadd, 1) := by decide +kernel
theorem dX13_takenAt_106 : decode cX13_takenAt 106 = .ok (.istore 7, 2) := by decide +kernel
theorem dX13_takenAt_108 : decode cX13_takenAt 108 = .ok (.iload 6, 2) := by decide +kernel
theorem dX13_takenAt_110 : decode cX13_takenAt 110 = .ok (.aload_n 0, 1) := by decide +kernel
theorem dX13_takenAt_111 : decode cX13_takenAt 111 = .ok (.getfield 38, 3) := by decide +kernel
theorem dX13_takenAt_114 : decode cX13_takenAt 114 = .ok (.iload 7, 2) := by decide +kernel
theorem dX13_takenAt_116 : decode cX13_takenAt 116 = .ok (.iaload, 1) := by decide +kernel
theorem dX13_takenAt_117 : decode cX13_takenAt 117 = .ok (.aload_n 0, 1) := by decide +kernel
theorem dX13_takenAt_118 : decode cX13_takenAt 118 = .ok (.getfield 41, 3) := by decide +kernel
theorem dX13_takenAt_121 : decode cX13_takenAt 121 = .ok (.iload 7, 2) := by decide +kernel
theorem dX13_takenAt_123 : decode cX13_takenAt 123 = .ok (.iaload, 1) := by decide +kernel
theorem dX13_takenAt_124 : decode cX13_takenAt 124 = .ok (.invokestatic 178, 3) := by decide +kernel
theorem dX13_takenAt_127 : decode cX13_takenAt 127 = .ok (.iconst 1, 1) := by decide +kernel
theorem dX13_takenAt_128 : decode cX13_takenAt 128 = .ok (.iadd, 1) := by decide +kernel
theorem dX13_takenAt_129 : decode cX13_takenAt 129 = .ok (.iload 5, 2) := by decide +kernel
theorem dX13_takenAt_131 : decode cX13_takenAt 131 = .ok (.invokestatic 395, 3) := by decide +kernel
theorem dX13_takenAt_134 : decode cX13_takenAt 134 = .ok (.invokestatic 438, 3) := by decide +kernel
theorem dX13_takenAt_137 : decode cX13_takenAt 137 = .ok (.isub, 1) := by decide +kernel
theorem dX13_takenAt_138 : decode cX13_takenAt 138 = .ok (.invokestatic 178, 3) := by decide +kernel
theorem dX13_takenAt_141 : decode cX13_takenAt 141 = .ok (.istore 6, 2) := by decide +kernel
theorem dX13_takenAt_143 : decode cX13_takenAt 143 = .ok (.iload 5, 2) := by decide +kernel
theorem dX13_takenAt_145 : decode cX13_takenAt 145 = .ok (.invokestatic 360, 3) := by decide +kernel
theorem dX13_takenAt_148 : decode cX13_takenAt 148 = .ok (.ifCond .ne 6, 3) := by decide +kernel
theorem dX13_takenAt_151 : decode cX13_takenAt 151 = .ok (.iload 6, 2) := by decide +kernel
theorem dX13_takenAt_153 : decode cX13_takenAt 153 = .ok (.ireturn, 1) := by decide +kernel
theorem dX13_takenAt_154 : decode cX13_takenAt 154 = .ok (.aload_n 0, 1) := by decide +kernel
theorem dX13_takenAt_155 : decode cX13_takenAt 155 = .ok (.iload_n 1, 1) := by decide +kernel
theorem dX13_takenAt_156 : decode cX13_takenAt 156 = .ok (.iload_n 2, 1) := by decide +kernel
theorem dX13_takenAt_157 : decode cX13_takenAt 157 = .ok (.invokevirtual 432, 3) := by decide +kernel
theorem dX13_takenAt_160 : decode cX13_takenAt 160 = .ok (.aload_n 0, 1) := by decide +kernel
theorem dX13_takenAt_161 : decode cX13_takenAt 161 = .ok (.getfield 31, 3) := by decide +kernel
theorem dX13_takenAt_164 : decode cX13_takenAt 164 = .ok (.iconst 1, 1) := by decide +kernel
theorem dX13_takenAt_165 : decode cX13_takenAt 165 = .ok (.iaload, 1) := by decide +kernel
theorem dX13_takenAt_166 : decode cX13_takenAt 166 = .ok (.irem, 1) := by decide +kernel
theorem dX13_takenAt_167 : decode cX13_takenAt 167 = .ok (.istore 7, 2) := by decide +kernel
theorem dX13_takenAt_169 : decode cX13_takenAt 169 = .ok (.aload_n 0, 1) := by decide +kernel
theorem dX13_takenAt_170 : decode cX13_takenAt 170 = .ok (.getfield 47, 3) := by decide +kernel
theorem dX13_takenAt_173 : decode cX13_takenAt 173 = .ok (.iload 7, 2) := by decide +kernel
theorem dX13_takenAt_175 : decode cX13_takenAt 175 = .ok (.iaload, 1) := by decide +kernel
theorem dX13_takenAt_176 : decode cX13_takenAt 176 = .ok (.aload_n 0, 1) := by decide +kernel
theorem dX13_takenAt_177 : decode cX13_takenAt 177 = .ok (.getfield 31, 3) := by decide +kernel
theorem dX13_takenAt_180 : decode cX13_takenAt 180 = .ok (.iconst 2, 1) := by decide +kernel
theorem dX13_takenAt_181 : decode cX13_takenAt 181 = .ok (.iaload, 1) := by decide +kernel
theorem dX13_takenAt_182 : decode cX13_takenAt 182 = .ok (.iadd, 1) := by decide +kernel
theorem dX13_takenAt_183 : decode cX13_takenAt 183 = .ok (.istore 8, 2) := by decide +kernel
theorem dX13_takenAt_185 : decode cX13_takenAt 185 = .ok (.aload_n 0, 1) := by decide +kernel
theorem dX13_takenAt_186 : decode cX13_takenAt 186 = .ok (.dup, 1) := by decide +kernel
theorem dX13_takenAt_187 : decode cX13_takenAt 187 = .ok (.getfield 441, 3) := by decide +kernel
theorem dX13_takenAt_190 : decode cX13_takenAt 190 = .ok (.iconst 0, 1) := by decide +kernel
theorem dX13_takenAt_191 : decode cX13_takenAt 191 = .ok (.iload 8, 2) := by decide +kernel
theorem dX13_takenAt_193 : decode cX13_takenAt 193 = .ok (.iload 6, 2) := by decide +kernel
theorem dX13_takenAt_195 : decode cX13_takenAt 195 = .ok (.isub, 1) := by decide +kernel
theorem dX13_takenAt_196 : decode cX13_takenAt 196 = .ok (.invokestatic 178, 3) := by decide +kernel
theorem dX13_takenAt_199 : decode cX13_takenAt 199 = .ok (.iadd, 1) := by decide +kernel
theorem dX13_takenAt_200 : decode cX13_takenAt 200 = .ok (.putfield 441, 3) := by decide +kernel
theorem dX13_takenAt_203 : decode cX13_takenAt 203 = .ok (.iload 6, 2) := by decide +kernel
theorem dX13_takenAt_205 : decode cX13_takenAt 205 = .ok (.iload 8, 2) := by decide +kernel
theorem dX13_takenAt_207 : decode cX13_takenAt 207 = .ok (.invokestatic 178, 3) := by decide +kernel
theorem dX13_takenAt_210 : decode cX13_takenAt 210 = .ok (.istore 6, 2) := by decide +kernel
theorem dX13_takenAt_212 : decode cX13_takenAt 212 = .ok (.aload_n 0, 1) := by decide +kernel
theorem dX13_takenAt_213 : decode cX13_takenAt 213 = .ok (.getfield 47, 3) := by decide +kernel
theorem dX13_takenAt_216 : decode cX13_takenAt 216 = .ok (.iload 7, 2) := by decide +kernel
theorem dX13_takenAt_218 : decode cX13_takenAt 218 = .ok (.iload 6, 2) := by decide +kernel
theorem dX13_takenAt_220 : decode cX13_takenAt 220 = .ok (.iastore, 1) := by decide +kernel
theorem dX13_takenAt_221 : decode cX13_takenAt 221 = .ok (.iload 6, 2) := by decide +kernel
theorem dX13_takenAt_223 : decode cX13_takenAt 223 = .ok (.ireturn, 1) := by decide +kernel
def pX13_takenAt_b143 (g : MT) (this : Nat) (p1 : Int32) (p2 : Int32) (p3 : Int32) (p4 : Int32) (l5 : Int32) (l6 : Int32) (h : CT) : Option ((Int32) × CT) := if (pX13_isMemory l5) = 0 then some (l6, h) else bd (pX13_placeOf g h this p1 p2) fun x2 => (lt (hR h this 19) fun r4 => (nn r4 fun a4 => (tg g a4 20 (ix (gL g a4) 1 (dvI (hI h a4 (Int32.toNatClampNeg 1)) (lt (x2 - x2 / (hI h a4 (Int32.toNatClampNeg 1)) * (hI h a4 (Int32.toNatClampNeg 1))) fun x8 => (lt (hR h this 26) fun r9 => (nn r9 fun a9 => (tg g a9 20 (ix (gL g a9) x8 (lt (hR h this 19) fun r12 => (nn r12 fun a12 => (tg g a12 20 (ix (gL g a12) 2 (lt ((hI h a9 (Int32.toNatClampNeg x8)) + (hI h a12 (Int32.toNatClampNeg 2))) fun x15 => (lt (sI h this 35 ((hI h this 35) + (pJ9_max_7cf53 0 (x15 - l6)))) fun h16 => (lt (pJ9_max_7cf53 l6 x15) fun x17 => (lt (hR h16 this 26) fun r18 => (nn r18 fun a18 => (tg g a18 20 (ix (gL g a18) x8 (lt (sI h16 a18 (Int32.toNatClampNeg x8) x17) fun h21 => (some (x17, h21))))))))))))))))))))))))
set_option maxRecDepth 10000 in
set_option maxHeartbeats 4000000 in
theorem pX13_takenAt_b143_ok {X : Cx} {G : Gx} {dk : Nat} {g : MT} {r0 : Int32} {h0 : CT} {this : Nat} {p1 : Int32} {p2 : Int32} {p3 : Int32} {p4 : Int32} (Z : Zx X G cX13_takenAt RX13 9 dk (some .int) (some (.int r0)) g h0) (hK : 3 ≤ dk) (t0 : gT g this = 12) (l5 : Int32) (l6 : Int32) (h : CT) (hf : pX13_takenAt_b143 g this p1 p2 p3 p4 l5 l6 h = some (r0, h0)) : J X g h 143 [(0, va_rf (some this)), (1, .int p1), (2, .int p2), (5, .int l5), (6, .int l6)] [] := by
  unfold pX13_takenAt_b143 at hf
  refine J_iload Z.1 3 dX13_takenAt_143 rfl ?_
  refine J_callS (as := [.int l5]) (rest := []) (sy := [.int (pX13_isMemory l5)]) Z.1 dX13_takenAt_145 cw_X13_360 (pX13_isMemory_ok G (dk - 1) (by omega) g h l5) (zG Z) rfl (by decide) (zF Z (by omega)) (zO Z (by omega) (by decide)) (zM g) Z.2.1 Z.2.1 rfl rfl ?_
  refine J_if_ne Z.1 154 dX13_takenAt_148 (by decide) (fun c1 => ?_) (fun c1 => ?_)
  · rw [if_neg c1] at hf
    refine J_aload_n Z.1 0 dX13_takenAt_154 rfl rfl ?_
    refine J_iload_n Z.1 1 dX13_takenAt_155 rfl rfl ?_
    refine J_iload_n Z.1 2 dX13_takenAt_156 rfl rfl ?_
    obtain ⟨x2, q3, hf⟩ := bd_i hf
    refine J_callV (ci := 11) (as := [.int p1, .int p2]) (rest := []) (sy := [.int x2]) Z.1 dX13_takenAt_157 cw_X13_432 (pX13_placeOf_ok G (dk - 1) (by omega) q3) rfl rfl t0 (zG Z) rfl (by decide) (zF Z (by omega)) (zO Z (by omega) (by decide)) (zM g) Z.2.1 Z.2.1 rfl rfl ?_
    refine J_aload_n Z.1 0 dX13_takenAt_160 rfl rfl ?_
    refine J_get (v := va_rf (hR h this 19)) Z.1 dX13_takenAt_161 fl_X13_31 t0 rfl ?_
    refine J_tr (fun r4 er4 => ?_)
    replace hf := lt_i hf r4 er4
    refine J_iconst Z.1 (v := 1) (by decide) dX13_takenAt_164 ?_
    obtain ⟨a4, rfl, hf⟩ := nn_i hf
    obtain ⟨t5, hf⟩ := tg_i hf
    obtain ⟨i6, hf⟩ := ix_i hf
    refine J_iaload Z.1 dX13_takenAt_165 t5 i6 ?_
    obtain ⟨z7, hf⟩ := dvI_i hf
    refine J_irem Z.1 z7 dX13_takenAt_166 ?_
    refine J_ti (fun x8 ex8 => ?_)
    replace hf := lt_i hf x8 ex8
    refine J_istore Z.1 (lv2 := [(7, .int x8), (0, va_rf (some this)), (1, .int p1), (2, .int p2), (5, .int l5), (6, .int l6)]) dX13_takenAt_167 (zL Z (by decide)) rfl ?_
    refine J_aload_n Z.1 1 dX13_takenAt_169 rfl rfl ?_
    refine J_get (v := va_rf (hR h this 26)) Z.1 dX13_takenAt_170 fl_X13_47 t0 rfl ?_
    refine J_tr (fun r9 er9 => ?_)
    replace hf := lt_i hf r9 er9
    refine J_iload Z.1 0 dX13_takenAt_173 rfl ?_
    obtain ⟨a9, rfl, hf⟩ := nn_i hf
    obtain ⟨t10, hf⟩ := tg_i hf
    obtain ⟨i11, hf⟩ := ix_i hf
    refine J_iaload Z.1 dX13_takenAt_175 t10 i11 ?_
    refine J_aload_n Z.1 1 dX13_takenAt_176 rfl rfl ?_
    refine J_get (v := va_rf (hR h this 19)) Z.1 dX13_takenAt_177 fl_X13_31 t0 rfl ?_
    refine J_tr (fun r12 er12 => ?_)
    replace hf := lt_i hf r12 er12
    refine J_iconst Z.1 (v := 2) (by decide) dX13_takenAt_180 ?_
    obtain ⟨a12, rfl, hf⟩ := nn_i hf
    obtain ⟨t13, hf⟩ := tg_i hf
    obtain ⟨i14, hf⟩ := ix_i hf
    refine J_iaload Z.1 dX13_takenAt_181 t13 i14 ?_
    refine J_iadd Z.1 dX13_takenAt_182 ?_
    refine J_ti (fun x15 ex15 => ?_)
    replace hf := lt_i hf x15 ex15
    refine J_istore Z.1 (lv2 := [(8, .int x15), (7, .int x8), (0, va_rf (some this)), (1, .int p1), (2, .int p2), (5, .int l5), (6, .int l6)]) dX13_takenAt_183 (zL Z (by decide)) rfl ?_
    refine J_aload_n Z.1 2 dX13_takenAt_185 rfl rfl ?_
    refine J_dup Z.1 dX13_takenAt_186 rfl ?_
    refine J_get (v := .int (hI h this 35)) Z.1 dX13_takenAt_187 fl_X13_441 t0 rfl ?_
    refine J_iconst Z.1 (v := 0) (by decide) dX13_takenAt_190 ?_
    refine J_iload Z.1 0 dX13_takenAt_191 rfl ?_
    refine J_iload Z.1 6 dX13_takenAt_193 rfl ?_
    refine J_isub Z.1 dX13_takenAt_195 ?_
    refine J_callS (as := [.int 0, .int (x15 - l6)]) (rest := [.int (hI h this 35), va_rf (some this)]) (sy := [.int (pJ9_max_7cf53 0 (x15 - l6)), .int (hI h this 35), va_rf (some this)]) Z.1 dX13_takenAt_196 cw_X13_178 (pJ9_max_7cf53_ok G (dk - 1) (by omega) g h 0 (x15 - l6)) (zG Z) rfl (by simp [cat_i, cat_l, cat_d, cat_rf]) (zF Z (by omega)) (zO Z (by omega) (by decide)) (zM g) Z.2.1 Z.2.1 rfl rfl ?_
    refine J_iadd Z.1 dX13_takenAt_199 ?_
    refine J_putI Z.1 dX13_takenAt_200 fl_X13_441 (fun q => by cases q) t0 rfl rfl (congrArg Value.int (hI_s _ _ _ _)) ?_
    refine J_th (fun h16 eh16 => ?_)
    replace hf := lt_i hf h16 eh16
    refine J_iload Z.1 6 dX13_takenAt_203 rfl ?_
    refine J_iload Z.1 0 dX13_takenAt_205 rfl ?_
    refine J_callS (as := [.int l6, .int x15]) (rest := []) (sy := [.int (pJ9_max_7cf53 l6 x15)]) Z.1 dX13_takenAt_207 cw_X13_178 (pJ9_max_7cf53_ok G (dk - 1) (by omega) g h16 l6 x15) (zG Z) rfl (by decide) (zF Z (by omega)) (zO Z (by omega) (by decide)) (zM g) Z.2.1 Z.2.1 rfl rfl ?_
    refine J_ti (fun x17 ex17 => ?_)
    replace hf := lt_i hf x17 ex17
    refine J_istore Z.1 (lv2 := [(6, .int x17), (8, .int x15), (7, .int x8), (0, va_rf (some this)), (1, .int p1), (2, .int p2), (5, .int l5)]) dX13_takenAt_210 (zL Z (by decide)) rfl ?_
    refine J_aload_n Z.1 3 dX13_takenAt_212 rfl rfl ?_
    refine J_get (v := va_rf (hR h16 this 26)) Z.1 dX13_takenAt_213 fl_X13_47 t0 rfl ?_
    refine J_tr (fun r18 er18 => ?_)
    replace hf := lt_i hf r18 er18
    refine J_iload Z.1 2 dX13_takenAt_216 rfl ?_
    refine J_iload Z.1 0 dX13_takenAt_218 rfl ?_
    obtain ⟨a18, rfl, hf⟩ := nn_i hf
    obtain ⟨t19, hf⟩ := tg_i hf
    obtain ⟨i20, hf⟩ := ix_i hf
    refine J_iastore Z.1 dX13_takenAt_220 t19 i20 ?_
    refine J_th (fun h21 eh21 => ?_)
    replace hf := lt_i hf h21 eh21
    refine J_iload Z.1 0 dX13_takenAt_221 rfl ?_
    cases hf
    exact J_iret Z.1 Z.2.2.2.2.2 dX13_takenAt_223
  · rw [if_pos c1] at hf
    refine J_iload Z.1 4 dX13_takenAt_151 rfl ?_
    cases hf
    exact J_iret Z.1 Z.2.2.2.2.2 dX13_takenAt_153
def pX13_takenAt_b87 (g : MT) (this : Nat) (p1 : Int32) (p2 : Int32) (p3 : Int32) (p4 : Int32) (l5 : Int32) (l6 : Int32) (h : CT) : Option ((Int32) × CT) := if (pX13_writesD l5) = 0 then pX13_takenAt_b143 g this p1 p2 p3 p4  l5 l6 h else bd (pX13_at g h this p1 1) fun x2 => (lt ((16 * x2) + p2) fun x4 => (lt (hR h this 23) fun r5 => (nn r5 fun a5 => (tg g a5 20 (ix (gL g a5) x4 (lt (hR h this 24) fun r8 => (nn r8 fun a8 => (tg g a8 20 (ix (gL g a8) x4 (lt (pJ9_max_7cf53 l6 (((pJ9_max_7cf53 (hI h a5 (Int32.toNatClampNeg x4)) (hI h a8 (Int32.toNatClampNeg x4))) + 1) - (pX13_latencyOf (pX13_unitOf l5)))) fun x11 => (pX13_takenAt_b143 g this p1 p2 p3 p4  l5 x11 h)))))))))))
set_option maxRecDepth 10000 in
set_option maxHeartbeats 4000000 in
theorem pX13_takenAt_b87_ok {X : Cx} {G : Gx} {dk : Nat} {g : MT} {r0 : Int32} {h0 : CT} {this : Nat} {p1 : Int32} {p2 : Int32} {p3 : Int32} {p4 : Int32} (Z : Zx X G cX13_takenAt RX13 9 dk (some .int) (some (.int r0)) g h0) (hK : 3 ≤ dk) (t0 : gT g this = 12) (l5 : Int32) (l6 : Int32) (h : CT) (hf : pX13_takenAt_b87 g this p1 p2 p3 p4 l5 l6 h = some (r0, h0)) : J X g h 87 [(0, va_rf (some this)), (1, .int p1), (2, .int p2), (5, .int l5), (6, .int l6)] [] := by
  unfold pX13_takenAt_b87 at hf
  refine J_iload Z.1 3 dX13_takenAt_87 rfl ?_
  refine J_callS (as := [.int l5]) (rest := []) (sy := [.int (pX13_writesD l5)]) Z.1 dX13_takenAt_89 cw_X13_363 (pX13_writesD_ok G (dk - 1) (by omega) g h l5) (zG Z) rfl (by decide) (zF Z (by omega)) (zO Z (by omega) (by decide)) (zM g) Z.2.1 Z.2.1 rfl rfl ?_
  refine J_if_eq Z.1 143 dX13_takenAt_92 (by decide) (fun c1 => ?_) (fun c1 => ?_)
  · rw [if_pos c1] at hf
    exact pX13_takenAt_b143_ok Z hK t0  _ _ _ hf
  · rw [if_neg c1] at hf
    refine J_bipush Z.1 (v := 16) (by decide) dX13_takenAt_95 ?_
    refine J_aload_n Z.1 0 dX13_takenAt_97 rfl rfl ?_
    refine J_iload_n Z.1 1 dX13_takenAt_98 rfl rfl ?_
    refine J_iconst Z.1 (v := 1) (by decide) dX13_takenAt_99 ?_
    obtain ⟨x2, q3, hf⟩ := bd_i hf
    refine J_callV (ci := 11) (as := [.int p1, .int 1]) (rest := [.int 16]) (sy := [.int x2, .int 16]) Z.1 dX13_takenAt_100 cw_X13_381 (pX13_at_ok G (dk - 1) (by omega) q3) rfl rfl t0 (zG Z) rfl (by simp [cat_i, cat_l, cat_d, cat_rf]) (zF Z (by omega)) (zO Z (by omega) (by decide)) (zM g) Z.2.1 Z.2.1 rfl rfl ?_
    refine J_imul Z.1 dX13_takenAt_103 ?_
    refine J_iload_n Z.1 2 dX13_takenAt_104 rfl rfl ?_
    refine J_iadd Z.1 dX13_takenAt_105 ?_
    refine J_ti (fun x4 ex4 => ?_)
    replace hf := lt_i hf x4 ex4
    refine J_istore Z.1 (lv2 := [(7, .int x4), (0, va_rf (some this)), (1, .int p1), (2, .int p2), (5, .int l5), (6, .int l6)]) dX13_takenAt_106 (zL Z (by decide)) rfl ?_
    refine J_iload Z.1 5 dX13_takenAt_108 rfl ?_
    refine J_aload_n Z.1 1 dX13_takenAt_110 rfl rfl ?_
    refine J_get (v := va_rf (hR h this 23)) Z.1 dX13_takenAt_111 fl_X13_38 t0 rfl ?_
    refine J_tr (fun r5 er5 => ?_)
    replace hf := lt_i hf r5 er5
    refine J_iload Z.1 0 dX13_takenAt_114 rfl ?_
    obtain ⟨a5, rfl, hf⟩ := nn_i hf
    obtain ⟨t6, hf⟩ := tg_i hf
    obtain ⟨i7, hf⟩ := ix_i hf
    refine J_iaload Z.1 dX13_takenAt_116 t6 i7 ?_
    refine J_aload_n Z.1 1 dX13_takenAt_117 rfl rfl ?_
    refine J_get (v := va_rf (hR h this 24)) Z.1 dX13_takenAt_118 fl_X13_41 t0 rfl ?_
    refine J_tr (fun r8 er8 => ?_)
    replace hf := lt_i hf r8 er8
    refine J_iload Z.1 0 dX13_takenAt_121 rfl ?_
    obtain ⟨a8, rfl, hf⟩ := nn_i hf
    obtain ⟨t9, hf⟩ := tg_i hf
    obtain ⟨i10, hf⟩ := ix_i hf
    refine J_iaload Z.1 dX13_takenAt_123 t9 i10 ?_
    refine J_callS (as := [.int (hI h a5 (Int32.toNatClampNeg x4)), .int (hI h a8 (Int32.toNatClampNeg x4))]) (rest := [.int l6]) (sy := [.int (pJ9_max_7cf53 (hI h a5 (Int32.toNatClampNeg x4)) (hI h a8 (Int32.toNatClampNeg x4))), .int l6]) Z.1 dX13_takenAt_124 cw_X13_178 (pJ9_max_7cf53_ok G (dk - 1) (by omega) g h (hI h a5 (Int32.toNatClampNeg x4)) (hI h a8 (Int32.toNatClampNeg x4))) (zG Z) rfl (by simp [cat_i, cat_l, cat_d, cat_rf]) (zF Z (by omega)) (zO Z (by omega) (by decide)) (zM g) Z.2.1 Z.2.1 rfl rfl ?_
    refine J_iconst Z.1 (v := 1) (by decide) dX13_takenAt_127 ?_
    refine J_iadd Z.1 dX13_takenAt_128 ?_
    refine J_iload Z.1 4 dX13_takenAt_129 rfl ?_
    refine J_callS (as := [.int l5]) (rest := [.int ((pJ9_max_7cf53 (hI h a5 (Int32.toNatClampNeg x4)) (hI h a8 (Int32.toNatClampNeg x4))) + 1), .int l6]) (sy := [.int (pX13_unitOf l5), .int ((pJ9_max_7cf53 (hI h a5 (Int32.toNatClampNeg x4)) (hI h a8 (Int32.toNatClampNeg x4))) + 1), .int l6]) Z.1 dX13_takenAt_131 cw_X13_395 (pX13_unitOf_ok G (dk - 1) (by omega) g h l5) (zG Z) rfl (by simp [cat_i, cat_l, cat_d, cat_rf]) (zF Z (by omega)) (zO Z (by omega) (by decide)) (zM g) Z.2.1 Z.2.1 rfl rfl ?_
    refine J_callS (as := [.int (pX13_unitOf l5)]) (rest := [.int ((pJ9_max_7cf53 (hI h a5 (Int32.toNatClampNeg x4)) (hI h a8 (Int32.toNatClampNeg x4))) + 1), .int l6]) (sy := [.int (pX13_latencyOf (pX13_unitOf l5)), .int ((pJ9_max_7cf53 (hI h a5 (Int32.toNatClampNeg x4)) (hI h a8 (Int32.toNatClampNeg x4))) + 1), .int l6]) Z.1 dX13_takenAt_134 cw_X13_438 (pX13_latencyOf_ok G (dk - 1) (by omega) g h (pX13_unitOf l5)) (zG Z) rfl (by simp [cat_i, cat_l, cat_d, cat_rf]) (zF Z (by omega)) (zO Z (by omega) (by decide)) (zM g) Z.2.1 Z.2.1 rfl rfl ?_
    refine J_isub Z.1 dX13_takenAt_137 ?_
    refine J_callS (as := [.int l6, .int (((pJ9_max_7cf53 (hI h a5 (Int32.toNatClampNeg x4)) (hI h a8 (Int32.toNatClampNeg x4))) + 1) - (pX13_latencyOf (pX13_unitOf l5)))]) (rest := []) (sy := [.int (pJ9_max_7cf53 l6 (((pJ9_max_7cf53 (hI h a5 (Int32.toNatClampNeg x4)) (hI h a8 (Int32.toNatClampNeg x4))) + 1) - (pX13_latencyOf (pX13_unitOf l5))))]) Z.1 dX13_takenAt_138 cw_X13_178 (pJ9_max_7cf53_ok G (dk - 1) (by omega) g h l6 (((pJ9_max_7cf53 (hI h a5 (Int32.toNatClampNeg x4)) (hI h a8 (Int32.toNatClampNeg x4))) + 1) - (pX13_latencyOf (pX13_unitOf l5)))) (zG Z) rfl (by decide) (zF Z (by omega)) (zO Z (by omega) (by decide)) (zM g) Z.2.1 Z.2.1 rfl rfl ?_
    refine J_ti (fun x11 ex11 => ?_)
    replace hf := lt_i hf x11 ex11
    refine J_istore Z.1 (lv2 := [(6, .int x11), (7, .int x4), (0, va_rf (some this)), (1, .int p1), (2, .int p2), (5, .int l5)]) dX13_takenAt_141 (zL Z (by decide)) rfl ?_
    refine J_lv [2, 3, 4, 5, 0] rfl ?_
    exact pX13_takenAt_b143_ok Z hK t0  _ _ _ hf
def pX13_takenAt_b64 (g : MT) (this : Nat) (p1 : Int32) (p2 : Int32) (p3 : Int32) (p4 : Int32) (l5 : Int32) (l6 : Int32) (h : CT) : Option ((Int32) × CT) := if (pX13_readsD l5) = 0 then pX13_takenAt_b87 g this p1 p2 p3 p4  l5 l6 h else bd (pX13_at g h this p1 1) fun x2 => (bd (pX13_waitsFor g h this x2 p2 l6) fun x4 => (pX13_takenAt_b87 g this p1 p2 p3 p4  l5 x4 h))
set_option maxRecDepth 10000 in
set_option maxHeartbeats 4000000 in
theorem pX13_takenAt_b64_ok {X : Cx} {G : Gx} {dk : Nat} {g : MT} {r0 : Int32} {h0 : CT} {this : Nat} {p1 : Int32} {p2 : Int32} {p3 : Int32} {p4 : Int32} (Z : Zx X G cX13_takenAt RX13 9 dk (some .int) (some (.int r0)) g h0) (hK : 3 ≤ dk) (t0 : gT g this = 12) (l5 : Int32) (l6 : Int32) (h : CT) (hf : pX13_takenAt_b64 g this p1 p2 p3 p4 l5 l6 h = some (r0, h0)) : J X g h 64 [(0, va_rf (some this)), (1, .int p1), (2, .int p2), (5, .int l5), (6, .int l6)] [] := by
  unfold pX13_takenAt_b64 at hf
  refine J_iload Z.1 3 dX13_takenAt_64 rfl ?_
  refine J_callS (as := [.int l5]) (rest := []) (sy := [.int (pX13_readsD l5)]) Z.1 dX13_takenAt_66 cw_X13_392 (pX13_readsD_ok G (dk - 1) (by omega) g h l5) (zG Z) rfl (by decide) (zF Z (by omega)) (zO Z (by omega) (by decide)) (zM g) Z.2.1 Z.2.1 rfl rfl ?_
  refine J_if_eq Z.1 87 dX13_takenAt_69 (by decide) (fun c1 => ?_) (fun c1 => ?_)
  · rw [if_pos c1] at hf
    exact pX13_takenAt_b87_ok Z hK t0  _ _ _ hf
  · rw [if_neg c1] at hf
    refine J_aload_n Z.1 0 dX13_takenAt_72 rfl rfl ?_
    refine J_aload_n Z.1 0 dX13_takenAt_73 rfl rfl ?_
    refine J_iload_n Z.1 1 dX13_takenAt_74 rfl rfl ?_
    refine J_iconst Z.1 (v := 1) (by decide) dX13_takenAt_75 ?_
    obtain ⟨x2, q3, hf⟩ := bd_i hf
    refine J_callV (ci := 11) (as := [.int p1, .int 1]) (rest := [va_rf (some this)]) (sy := [.int x2, va_rf (some this)]) Z.1 dX13_takenAt_76 cw_X13_381 (pX13_at_ok G (dk - 1) (by omega) q3) rfl rfl t0 (zG Z) rfl (by simp [cat_i, cat_l, cat_d, cat_rf]) (zF Z (by omega)) (zO Z (by omega) (by decide)) (zM g) Z.2.1 Z.2.1 rfl rfl ?_
    refine J_iload_n Z.1 2 dX13_takenAt_79 rfl rfl ?_
    refine J_iload Z.1 4 dX13_takenAt_80 rfl ?_
    obtain ⟨x4, q5, hf⟩ := bd_i hf
    refine J_callV (ci := 11) (as := [.int x2, .int p2, .int l6]) (rest := []) (sy := [.int x4]) Z.1 dX13_takenAt_82 cw_X13_435 (pX13_waitsFor_ok G (dk - 1) (by omega) q5) rfl rfl t0 (zG Z) rfl (by decide) (zF Z (by omega)) (zO Z (by omega) (by decide)) (zM g) Z.2.1 Z.2.1 rfl rfl ?_
    refine J_istore Z.1 (lv2 := [(6, .int x4), (0, va_rf (some this)), (1, .int p1), (2, .int p2), (5, .int l5)]) dX13_takenAt_85 (zL Z (by decide)) rfl ?_
    refine J_lv [1, 2, 3, 4, 0] rfl ?_
    exact pX13_takenAt_b87_ok Z hK t0  _ _ _ hf
def pX13_takenAt_b41 (g : MT) (this : Nat) (p1 : Int32) (p2 : Int32) (p3 : Int32) (p4 : Int32) (l5 : Int32) (l6 : Int32) (h : CT) : Option ((Int32) × CT) := if (pX13_readsB l5) = 0 then pX13_takenAt_b64 g this p1 p2 p3 p4  l5 l6 h else bd (pX13_at g h this p1 3) fun x2 => (bd (pX13_waitsFor g h this x2 p2 l6) fun x4 => (pX13_takenAt_b64 g this p1 p2 p3 p4  l5 x4 h))
set_option maxRecDepth 10000 in
set_option maxHeartbeats 4000000 in
theorem pX13_takenAt_b41_ok {X : Cx} {G : Gx} {dk : Nat} {g : MT} {r0 : Int32} {h0 : CT} {this : Nat} {p1 : Int32} {p2 : Int32} {p3 : Int32} {p4 : Int32} (Z : Zx X G cX13_takenAt RX13 9 dk (some .int) (some (.int r0)) g h0) (hK : 3 ≤ dk) (t0 : gT g this = 12) (l5 : Int32) (l6 : Int32) (h : CT) (hf : pX13_takenAt_b41 g this p1 p2 p3 p4 l5 l6 h = some (r0, h0)) : J X g h 41 [(0, va_rf (some this)), (1, .int p1), (2, .int p2), (5, .int l5), (6, .int l6)] [] := by
  unfold pX13_takenAt_b41 at hf
  refine J_iload Z.1 3 dX13_takenAt_41 rfl ?_
  refine J_callS (as := [.int l5]) (rest := []) (sy := [.int (pX13_readsB l5)]) Z.1 dX13_takenAt_43 cw_X13_389 (pX13_readsB_ok G (dk - 1) (by omega) g h l5) (zG Z) rfl (by decide) (zF Z (by omega)) (zO Z (by omega) (by decide)) (zM g) Z.2.1 Z.2.1 rfl rfl ?_
  refine J_if_eq Z.1 64 dX13_takenAt_46 (by decide) (fun c1 => ?_) (fun c1 => ?_)
  · rw [if_pos c1] at hf
    exact pX13_takenAt_b64_ok Z hK t0  _ _ _ hf
  · rw [if_neg c1] at hf
    refine J_aload_n Z.1 0 dX13_takenAt_49 rfl rfl ?_
    refine J_aload_n Z.1 0 dX13_takenAt_50 rfl rfl ?_
    refine J_iload_n Z.1 1 dX13_takenAt_51 rfl rfl ?_
    refine J_iconst Z.1 (v := 3) (by decide) dX13_takenAt_52 ?_
    obtain ⟨x2, q3, hf⟩ := bd_i hf
    refine J_callV (ci := 11) (as := [.int p1, .int 3]) (rest := [va_rf (some this)]) (sy := [.int x2, va_rf (some this)]) Z.1 dX13_takenAt_53 cw_X13_381 (pX13_at_ok G (dk - 1) (by omega) q3) rfl rfl t0 (zG Z) rfl (by simp [cat_i, cat_l, cat_d, cat_rf]) (zF Z (by omega)) (zO Z (by omega) (by decide)) (zM g) Z.2.1 Z.2.1 rfl rfl ?_
    refine J_iload_n Z.1 2 dX13_takenAt_56 rfl rfl ?_
    refine J_iload Z.1 4 dX13_takenAt_57 rfl ?_
    obtain ⟨x4, q5, hf⟩ := bd_i hf
    refine J_callV (ci := 11) (as := [.int x2, .int p2, .int l6]) (rest := []) (sy := [.int x4]) Z.1 dX13_takenAt_59 cw_X13_435 (pX13_waitsFor_ok G (dk - 1) (by omega) q5) rfl rfl t0 (zG Z) rfl (by decide) (zF Z (by omega)) (zO Z (by omega) (by decide)) (zM g) Z.2.1 Z.2.1 rfl rfl ?_
    refine J_istore Z.1 (lv2 := [(6, .int x4), (0, va_rf (some this)), (1, .int p1), (2, .int p2), (5, .int l5)]) dX13_takenAt_62 (zL Z (by decide)) rfl ?_
    refine J_lv [1, 2, 3, 4, 0] rfl ?_
    exact pX13_takenAt_b64_ok Z hK t0  _ _ _ hf
def pX13_takenAt (g : MT) (h : CT) (this : Nat) (p1 : Int32) (p2 : Int32) (p3 : Int32) (p4 : Int32) : Option ((Int32) × CT) := tg g this 12 (bd (pX13_at g h this p1 0) fun x1 => (lt (pJ9_max_7cf53 p3 (p4 + 1)) fun x3 => (if (pX13_readsA x1) = 0 then pX13_takenAt_b41 g this p1 p2 p3 p4  x1 x3 h else bd (pX13_at g h this p1 2) fun x5 => (bd (pX13_waitsFor g h this x5 p2 x3) fun x7 => (pX13_takenAt_b41 g this p1 p2 p3 p4  x1 x7 h)))))
set_option maxRecDepth 10000 in
set_option maxHeartbeats 4000000 in
theorem pX13_takenAt_ok (G : Gx) (dk : Nat) (hK : 3 ≤ dk) {g : MT} {h h0 : CT} {this : Nat} {p1 : Int32} {p2 : Int32} {p3 : Int32} {p4 : Int32} {r0 : Int32} (hf : pX13_takenAt g h this p1 p2 p3 p4 = some (r0, h0)) : Ctr G dk yX13_takenAt cX13_takenAt 9 (some .int) [va_rf (some this), .int p1, .int p2, .int p3, .int p4] g h (some (.int r0)) g h0 := by
  refine Ctr.ofZ (lv := [(0, va_rf (some this)), (1, .int p1), (2, .int p2), (3, .int p3), (4, .int p4)]) (by decide +kernel) (by simp [cat_i, cat_l, cat_d, cat_rf]) rfl fun X Z => ?_
  unfold pX13_takenAt at hf
  obtain ⟨t0, hf⟩ := tg_i hf
  refine J_aload_n Z.1 0 dX13_takenAt_0 rfl rfl ?_
  refine J_iload_n Z.1 1 dX13_takenAt_1 rfl rfl ?_
  refine J_iconst Z.1 (v := 0) (by decide) dX13_takenAt_2 ?_
  obtain ⟨x1, q2, hf⟩ := bd_i hf
  refine J_callV (ci := 11) (as := [.int p1, .int 0]) (rest := []) (sy := [.int x1]) Z.1 dX13_takenAt_3 cw_X13_381 (pX13_at_ok G (dk - 1) (by omega) q2) rfl rfl t0 (zG Z) rfl (by decide) (zF Z (by omega)) (zO Z (by omega) (by decide)) (zM g) Z.2.1 Z.2.1 rfl rfl ?_
  refine J_istore Z.1 (lv2 := [(5, .int x1), (0, va_rf (some this)), (1, .int p1), (2, .int p2), (3, .int p3), (4, .int p4)]) dX13_takenAt_6 (zL Z (by decide)) rfl ?_
  refine J_iload_n Z.1 4 dX13_takenAt_8 rfl rfl ?_
  refine J_iload Z.1 5 dX13_takenAt_9 rfl ?_
  refine J_iconst Z.1 (v := 1) (by decide) dX13_takenAt_11 ?_
  refine J_iadd Z.1 dX13_takenAt_12 ?_
  refine J_callS (as := [.int p3, .int (p4 + 1)]) (rest := []) (sy := [.int (pJ9_max_7cf53 p3 (p4 + 1))]) Z.1 dX13_takenAt_13 cw_X13_178 (pJ9_max_7cf53_ok G (dk - 1) (by omega) g h p3 (p4 + 1)) (zG Z) rfl (by decide) (zF Z (by omega)) (zO Z (by omega) (by decide)) (zM g) Z.2.1 Z.2.1 rfl rfl ?_
  refine J_ti (fun x3 ex3 => ?_)
  replace hf := lt_i hf x3 ex3
  refine J_istore Z.1 (lv2 := [(6, .int x3), (5, .int x1), (0, va_rf (some this)), (1, .int p1), (2, .int p2), (3, .int p3), (4, .int p4)]) dX13_takenAt_16 (zL Z (by decide)) rfl ?_
  refine J_iload Z.1 1 dX13_takenAt_18 rfl ?_
  refine J_callS (as := [.int x1]) (rest := []) (sy := [.int (pX13_readsA x1)]) Z.1 dX13_takenAt_20 cw_X13_383 (pX13_readsA_ok G (dk - 1) (by omega) g h x1) (zG Z) rfl (by decide) (zF Z (by omega)) (zO Z (by omega) (by decide)) (zM g) Z.2.1 Z.2.1 rfl rfl ?_
  refine J_if_eq Z.1 41 dX13_takenAt_23 (by decide) (fun c4 => ?_) (fun c4 => ?_)
  · rw [if_pos c4] at hf
    refine J_lv [2, 3, 4, 1, 0] rfl ?_
    exact pX13_takenAt_b41_ok Z hK t0  _ _ _ hf
  · rw [if_neg c4] at hf
    refine J_aload_n Z.1 2 dX13_takenAt_26 rfl rfl ?_
    refine J_aload_n Z.1 2 dX13_takenAt_27 rfl rfl ?_
    refine J_iload_n Z.1 3 dX13_takenAt_28 rfl rfl ?_
    refine J_iconst Z.1 (v := 2) (by decide) dX13_takenAt_29 ?_
    obtain ⟨x5, q6, hf⟩ := bd_i hf
    refine J_callV (ci := 11) (as := [.int p1, .int 2]) (rest := [va_rf (some this)]) (sy := [.int x5, va_rf (some this)]) Z.1 dX13_takenAt_30 cw_X13_381 (pX13_at_ok G (dk - 1) (by omega) q6) rfl rfl t0 (zG Z) rfl (by simp [cat_i, cat_l, cat_d, cat_rf]) (zF Z (by omega)) (zO Z (by omega) (by decide)) (zM g) Z.2.1 Z.2.1 rfl rfl ?_
    refine J_iload_n Z.1 4 dX13_takenAt_33 rfl rfl ?_
    refine J_iload Z.1 0 dX13_takenAt_34 rfl ?_
    obtain ⟨x7, q8, hf⟩ := bd_i hf
    refine J_callV (ci := 11) (as := [.int x5, .int p2, .int x3]) (rest := []) (sy := [.int x7]) Z.1 dX13_takenAt_36 cw_X13_435 (pX13_waitsFor_ok G (dk - 1) (by omega) q8) rfl rfl t0 (zG Z) rfl (by decide) (zF Z (by omega)) (zO Z (by omega) (by decide)) (zM g) Z.2.1 Z.2.1 rfl rfl ?_
    refine J_istore Z.1 (lv2 := [(6, .int x7), (5, .int x1), (0, va_rf (some this)), (1, .int p1), (2, .int p2), (3, .int p3), (4, .int p4)]) dX13_takenAt_39 (zL Z (by decide)) rfl ?_
    refine J_lv [2, 3, 4, 1, 0] rfl ?_
    exact pX13_takenAt_b41_ok Z hK t0  _ _ _ hf
theorem dX13_reads_0 : decode cX13_reads 0 = .ok (.aload_n 0, 1) := by decide +kernel
theorem dX13_reads_1 : decode cX13_reads 1 = .ok (.getfield 41, 3) := by decide +kernel
theorem dX13_reads_4 : decode cX13_reads 4 = .ok (.bipush 16, 2) := by decide +kernel
theorem dX13_reads_6 : decode cX13_reads 6 = .ok (.iload_n 1, 1) := by decide +kernel
theorem dX13_reads_7 : decode cX13_reads 7 = .ok (.imul, 1) := by decide +kernel
theorem dX13_reads_8 : decode cX13_reads 8 = .ok (.iload_n 2, 1) := by decide +kernel
theorem dX13_reads_9 : decode cX13_reads 9 = .ok (.iadd, 1) := by decide +kernel
theorem dX13_reads_10 : decode cX13_reads 10 = .ok (.aload_n 0, 1) := by decide +kernel
theorem dX13_reads_11 : decode cX13_reads 11 = .ok (.getfield 41, 3) := by decide +kernel
theorem dX13_reads_14 : decode cX13_reads 14 = .ok (.bipush 16, 2) := by decide +kernel
theorem dX13_reads_16 : decode cX13_reads 16 = .ok (.iload_n 1, 1) := by decide +kernel
theorem dX13_reads_17 : decode cX13_reads 17 = .ok (.imul, 1) := by decide +kernel
theorem dX13_reads_18 : decode cX13_reads 18 = .ok (.iload_n 2, 1) := by decide +kernel
theorem dX13_reads_19 : decode cX13_reads 19 = .ok (.iadd, 1) := by decide +kernel
theorem dX13_reads_20 : decode cX13_reads 20 = .ok (.iaload, 1) := by decide +kernel
theorem dX13_reads_21 : decode cX13_reads 21 = .ok (.iload_n 3, 1) := by decide +kernel
theorem dX13_reads_22 : decode cX13_reads 22 = .ok (.invokestatic 178, 3) := by decide +kernel
theorem dX13_reads_25 : decode cX13_reads 25 = .ok (.iastore, 1) := by decide +kernel
theorem dX13_reads_26 : decode cX13_reads 26 = .ok (.return_, 1) := by decide +kernel
def pX13_reads (g : MT) (h : CT) (this : Nat) (p1 : Int32) (p2 : Int32) (p3 : Int32) : Option CT := tg g this 12 (lt (hR h this 24) fun r1 => (lt (hR h this 24) fun r2 => (nn r2 fun a2 => (tg g a2 20 (ix (gL g a2) ((16 * p1) + p2) (nn r1 fun a1 => (tg g a1 20 (ix (gL g a1) ((16 * p1) + p2) (lt (sI h a1 (Int32.toNatClampNeg ((16 * p1) + p2)) (pJ9_max_7cf53 (hI h a2 (Int32.toNatClampNeg ((16 * p1) + p2))) p3)) fun h7 => (some h7))))))))))
set_option maxRecDepth 10000 in
set_option maxHeartbeats 4000000 in
theorem pX13_reads_ok (G : Gx) (dk : Nat) (hK : 1 ≤ dk) {g : MT} {h h0 : CT} {this : Nat} {p1 : Int32} {p2 : Int32} {p3 : Int32} (hf : pX13_reads g h this p1 p2 p3 = some h0) : Ctr G dk yX13_reads cX13_reads 4 none [va_rf (some this), .int p1, .int p2, .int p3] g h none g h0 := by
  refine Ctr.ofZ (lv := [(0, va_rf (some this)), (1, .int p1), (2, .int p2), (3, .int p3)]) (by decide +kernel) (by simp [cat_i, cat_l, cat_d, cat_rf]) rfl fun X Z => ?_
  unfold pX13_reads at hf
  obtain ⟨t0, hf⟩ := tg_i hf
  refine J_aload_n Z.1 0 dX13_reads_0 rfl rfl ?_
  refine J_get (v := va_rf (hR h this 24)) Z.1 dX13_reads_1 fl_X13_41 t0 rfl ?_
  refine J_tr (fun r1 er1 => ?_)
  replace hf := lt_i hf r1 er1
  refine J_bipush Z.1 (v := 16) (by decide) dX13_reads_4 ?_
  refine J_iload_n Z.1 1 dX13_reads_6 rfl rfl ?_
  refine J_imul Z.1 dX13_reads_7 ?_
  refine J_iload_n Z.1 2 dX13_reads_8 rfl rfl ?_
  refine J_iadd Z.1 dX13_reads_9 ?_
  refine J_aload_n Z.1 0 dX13_reads_10 rfl rfl ?_
  refine J_get (v := va_rf (hR h this 24)) Z.1 dX13_reads_11 fl_X13_41 t0 rfl ?_
  refine J_tr (fun r2 er2 => ?_)
  replace hf := lt_i hf r2 er2
  refine J_bipush Z.1 (v := 16) (by decide) dX13_reads_14 ?_
  refine J_iload_n Z.1 1 dX13_reads_16 rfl rfl ?_
  refine J_imul Z.1 dX13_reads_17 ?_
  refine J_iload_n Z.1 2 dX13_reads_18 rfl rfl ?_
  refine J_iadd Z.1 dX13_reads_19 ?_
  obtain ⟨a2, rfl, hf⟩ := nn_i hf
  obtain ⟨t3, hf⟩ := tg_i hf
  obtain ⟨i4, hf⟩ := ix_i hf
  refine J_iaload Z.1 dX13_reads_20 t3 i4 ?_
  refine J_iload_n Z.1 3 dX13_reads_21 rfl rfl ?_
  refine J_callS (as := [.int (hI h a2 (Int32.toNatClampNeg ((16 * p1) + p2))), .int p3]) (rest := [.int ((16 * p1) + p2), va_rf r1]) (sy := [.int (pJ9_max_7cf53 (hI h a2 (Int32.toNatClampNeg ((16 * p1) + p2))) p3), .int ((16 * p1) + p2), va_rf r1]) Z.1 dX13_reads_22 cw_X13_178 (pJ9_max_7cf53_ok G (dk - 1) (by omega) g h (hI h a2 (Int32.toNatClampNeg ((16 * p1) + p2))) p3) (zG Z) rfl (by simp [cat_i, cat_l, cat_d, cat_rf]) (zF Z (by omega)) (zO Z (by omega) (by decide)) (zM g) Z.2.1 Z.2.1 rfl rfl ?_
  obtain ⟨a1, rfl, hf⟩ := nn_i hf
  obtain ⟨t5, hf⟩ := tg_i hf
  obtain ⟨i6, hf⟩ := ix_i hf
  refine J_iastore Z.1 dX13_reads_25 t5 i6 ?_
  refine J_th (fun h7 eh7 => ?_)
  replace hf := lt_i hf h7 eh7
  cases hf
  exact J_vret Z.1 Z.2.2.2.2.2 dX13_reads_26
theorem dX13_readsAll_0 : decode cX13_readsAll 0 = .ok (.aload_n 0, 1) := by decide +kernel
theorem dX13_readsAll_1 : decode cX13_readsAll 1 = .ok (.iload_n 1, 1) := by decide +kernel
theorem dX13_readsAll_2 : decode cX13_readsAll 2 = .ok (.iconst 0, 1) := by decide +kernel
theorem dX13_readsAll_3 : decode cX13_readsAll 3 = .ok (.invokevirtual 381, 3) := by decide +kernel
theorem dX13_readsAll_6 : decode cX13_readsAll 6 = .ok (.istore 4, 2) := by decide +kernel
theorem dX13_readsAll_8 : decode cX13_readsAll 8 = .ok (.iload 4, 2) := by decide +kernel
theorem dX13_readsAll_10 : decode cX13_readsAll 10 = .ok (.invokestatic 383, 3) := by decide +kernel
theorem dX13_readsAll_13 : decode cX13_readsAll 13 = .ok (.ifCond .eq 15, 3) := by decide +kernel
theorem dX13_readsAll_16 : decode cX13_readsAll 16 = .ok (.aload_n 0, 1) := by decide +kernel
theorem dX13_readsAll_17 : decode cX13_readsAll 17 = .ok (.aload_n 0, 1) := by decide +kernel
theorem dX13_readsAll_18 : decode cX13_readsAll 18 = .ok (.iload_n 1, 1) := by decide +kernel
theorem dX13_readsAll_19 : decode cX13_readsAll 19 = .ok (.iconst 2, 1) := by decide +kernel
theorem dX13_readsAll_20 : decode cX13_readsAll 20 = .ok (.invokevirtual 381, 3) := by decide +kernel
theorem dX13_readsAll_23 : decode cX13_readsAll 23 = .ok (.iload_n 2, 1) := by decide +kernel
theorem dX13_readsAll_24 : decode cX13_readsAll 24 = .ok (.iload_n 3, 1) := by decide +kernel
theorem dX13_readsAll_25 : decode cX13_readsAll 25 = .ok (.invokevirtual 444, 3) := by decide +kernel
theorem dX13_readsAll_28 : decode cX13_readsAll 28 = .ok (.iload 4, 2) := by decide +kernel
theorem dX13_readsAll_30 : decode cX13_readsAll 30 = .ok (.invokestatic 389, 3) := by decide +kernel
theorem dX13_readsAll_33 : decode cX13_readsAll 33 = .ok (.ifCond .eq 15, 3) := by decide +kernel
theorem dX13_readsAll_36 : decode cX13_readsAll 36 = .ok (.aload_n 0, 1) := by decide +kernel
theorem dX13_readsAll_37 : decode cX13_readsAll 37 = .ok (.aload_n 0, 1) := by decide +kernel
theorem dX13_readsAll_38 : decode cX13_readsAll 38 = .ok (.iload_n 1, 1) := by decide +kernel
theorem dX13_readsAll_39 : decode cX13_readsAll 39 = .ok (.iconst 3, 1) := by decide +kernel
theorem dX13_readsAll_40 : decode cX13_readsAll 40 = .ok (.invokevirtual 381, 3) := by decide +kernel
theorem dX13_readsAll_43 : decode cX13_readsAll 43 = .ok (.iload_n 2, 1) := by decide +kernel
theorem dX13_readsAll_44 : decode cX13_readsAll 44 = .ok (.iload_n 3, 1) := by decide +kernel
theorem dX13_readsAll_45 : decode cX13_readsAll 45 = .ok (.invokevirtual 444, 3) := by decide +kernel
theorem dX13_readsAll_48 : decode cX13_readsAll 48 = .ok (.iload 4, 2) := by decide +kernel
theorem dX13_readsAll_50 : decode cX13_readsAll 50 = .ok (.invokestatic 392, 3) := by decide +kernel
theorem dX13_readsAll_53 : decode cX13_readsAll 53 = .ok (.ifCond .eq 15, 3) := by decide +kernel
theorem dX13_readsAll_56 : decode cX13_readsAll 56 = .ok (.aload_n 0, 1) := by decide +kernel
theorem dX13_readsAll_57 : decode cX13_readsAll 57 = .ok (.aload_n 0, 1) := by decide +kernel
theorem dX13_readsAll_58 : decode cX13_readsAll 58 = .ok (.iload_n 1, 1) := by decide +kernel
theorem dX13_readsAll_59 : decode cX13_readsAll 59 = .ok (.iconst 1, 1) := by decide +kernel
theorem dX13_readsAll_60 : decode cX13_readsAll 60 = .ok (.invokevirtual 381, 3) := by decide +kernel
theorem dX13_readsAll_63 : decode cX13_readsAll 63 = .ok (.iload_n 2, 1) := by decide +kernel
theorem dX13_readsAll_64 : decode cX13_readsAll 64 = .ok (.iload_n 3, 1) := by decide +kernel
theorem dX13_readsAll_65 : decode cX13_readsAll 65 = .ok (.invokevirtual 444, 3) := by decide +kernel
theorem dX13_readsAll_68 : decode cX13_readsAll 68 = .ok (.return_, 1) := by decide +kernel
def pX13_readsAll_b48 (g : MT) (this : Nat) (p1 : Int32) (p2 : Int32) (p3 : Int32) (l4 : Int32) (h : CT) : Option CT := if (pX13_readsD l4) = 0 then some h else bd (pX13_at g h this p1 1) fun x2 => (bd (pX13_reads g h this x2 p2 p3) fun h4 => (some h4))
set_option maxRecDepth 10000 in
set_option maxHeartbeats 4000000 in
theorem pX13_readsAll_b48_ok {X : Cx} {G : Gx} {dk : Nat} {g : MT} {h0 : CT} {this : Nat} {p1 : Int32} {p2 : Int32} {p3 : Int32} (Z : Zx X G cX13_readsAll RX13 5 dk none none g h0) (hK : 2 ≤ dk) (t0 : gT g this = 12) (l4 : Int32) (h : CT) (hf : pX13_readsAll_b48 g this p1 p2 p3 l4 h = some h0) : J X g h 48 [(0, va_rf (some this)), (1, .int p1), (2, .int p2), (3, .int p3), (4, .int l4)] [] := by
  unfold pX13_readsAll_b48 at hf
  refine J_iload Z.1 4 dX13_readsAll_48 rfl ?_
  refine J_callS (as := [.int l4]) (rest := []) (sy := [.int (pX13_readsD l4)]) Z.1 dX13_readsAll_50 cw_X13_392 (pX13_readsD_ok G (dk - 1) (by omega) g h l4) (zG Z) rfl (by decide) (zF Z (by omega)) (zO Z (by omega) (by decide)) (zM g) Z.2.1 Z.2.1 rfl rfl ?_
  refine J_if_eq Z.1 68 dX13_readsAll_53 (by decide) (fun c1 => ?_) (fun c1 => ?_)
  · rw [if_pos c1] at hf
    cases hf
    exact J_vret Z.1 Z.2.2.2.2.2 dX13_readsAll_68
  · rw [if_neg c1] at hf
    refine J_aload_n Z.1 0 dX13_readsAll_56 rfl rfl ?_
    refine J_aload_n Z.1 0 dX13_readsAll_57 rfl rfl ?_
    refine J_iload_n Z.1 1 dX13_readsAll_58 rfl rfl ?_
    refine J_iconst Z.1 (v := 1) (by decide) dX13_readsAll_59 ?_
    obtain ⟨x2, q3, hf⟩ := bd_i hf
    refine J_callV (ci := 11) (as := [.int p1, .int 1]) (rest := [va_rf (some this)]) (sy := [.int x2, va_rf (some this)]) Z.1 dX13_readsAll_60 cw_X13_381 (pX13_at_ok G (dk - 1) (by omega) q3) rfl rfl t0 (zG Z) rfl (by simp [cat_i, cat_l, cat_d, cat_rf]) (zF Z (by omega)) (zO Z (by omega) (by decide)) (zM g) Z.2.1 Z.2.1 rfl rfl ?_
    refine J_iload_n Z.1 2 dX13_readsAll_63 rfl rfl ?_
    refine J_iload_n Z.1 3 dX13_readsAll_64 rfl rfl ?_
    obtain ⟨h4, q5, hf⟩ := bd_i hf
    refine J_callV (ci := 11) (as := [.int x2, .int p2, .int p3]) (rest := []) (sy := []) Z.1 dX13_readsAll_65 cw_X13_444 (pX13_reads_ok G (dk - 1) (by omega) q5) rfl rfl t0 (zG Z) rfl (by decide) (zF Z (by omega)) (zO Z (by omega) (by decide)) (zM g) Z.2.1 Z.2.1 rfl rfl ?_
    cases hf
    exact J_vret Z.1 Z.2.2.2.2.2 dX13_readsAll_68
def pX13_readsAll_b28 (g : MT) (this : Nat) (p1 : Int32) (p2 : Int32) (p3 : Int32) (l4 : Int32) (h : CT) : Option CT := if (pX13_readsB l4) = 0 then pX13_readsAll_b48 g this p1 p2 p3  l4 h else bd (pX13_at g h this p1 3) fun x2 => (bd (pX13_reads g h this x2 p2 p3) fun h4 => (pX13_readsAll_b48 g this p1 p2 p3  l4 h4))
set_option maxRecDepth 10000 in
set_option maxHeartbeats 4000000 in
theorem pX13_readsAll_b28_ok {X : Cx} {G : Gx} {dk : Nat} {g : MT} {h0 : CT} {this : Nat} {p1 : Int32} {p2 : Int32} {p3 : Int32} (Z : Zx X G cX13_readsAll RX13 5 dk none none g h0) (hK : 2 ≤ dk) (t0 : gT g this = 12) (l4 : Int32) (h : CT) (hf : pX13_readsAll_b28 g this p1 p2 p3 l4 h = some h0) : J X g h 28 [(0, va_rf (some this)), (1, .int p1), (2, .int p2), (3, .int p3), (4, .int l4)] [] := by
  unfold pX13_readsAll_b28 at hf
  refine J_iload Z.1 4 dX13_readsAll_28 rfl ?_
  refine J_callS (as := [.int l4]) (rest := []) (sy := [.int (pX13_readsB l4)]) Z.1 dX13_readsAll_30 cw_X13_389 (pX13_readsB_ok G (dk - 1) (by omega) g h l4) (zG Z) rfl (by decide) (zF Z (by omega)) (zO Z (by omega) (by decide)) (zM g) Z.2.1 Z.2.1 rfl rfl ?_
  refine J_if_eq Z.1 48 dX13_readsAll_33 (by decide) (fun c1 => ?_) (fun c1 => ?_)
  · rw [if_pos c1] at hf
    exact pX13_readsAll_b48_ok Z hK t0  _ _ hf
  · rw [if_neg c1] at hf
    refine J_aload_n Z.1 0 dX13_readsAll_36 rfl rfl ?_
    refine J_aload_n Z.1 0 dX13_readsAll_37 rfl rfl ?_
    refine J_iload_n Z.1 1 dX13_readsAll_38 rfl rfl ?_
    refine J_iconst Z.1 (v := 3) (by decide) dX13_readsAll_39 ?_
    obtain ⟨x2, q3, hf⟩ := bd_i hf
    refine J_callV (ci := 11) (as := [.int p1, .int 3]) (rest := [va_rf (some this)]) (sy := [.int x2, va_rf (some this)]) Z.1 dX13_readsAll_40 cw_X13_381 (pX13_at_ok G (dk - 1) (by omega) q3) rfl rfl t0 (zG Z) rfl (by simp [cat_i, cat_l, cat_d, cat_rf]) (zF Z (by omega)) (zO Z (by omega) (by decide)) (zM g) Z.2.1 Z.2.1 rfl rfl ?_
    refine J_iload_n Z.1 2 dX13_readsAll_43 rfl rfl ?_
    refine J_iload_n Z.1 3 dX13_readsAll_44 rfl rfl ?_
    obtain ⟨h4, q5, hf⟩ := bd_i hf
    refine J_callV (ci := 11) (as := [.int x2, .int p2, .int p3]) (rest := []) (sy := []) Z.1 dX13_readsAll_45 cw_X13_444 (pX13_reads_ok G (dk - 1) (by omega) q5) rfl rfl t0 (zG Z) rfl (by decide) (zF Z (by omega)) (zO Z (by omega) (by decide)) (zM g) Z.2.1 Z.2.1 rfl rfl ?_
    exact pX13_readsAll_b48_ok Z hK t0  _ _ hf
def pX13_readsAll (g : MT) (h : CT) (this : Nat) (p1 : Int32) (p2 : Int32) (p3 : Int32) : Option CT := tg g this 12 (bd (pX13_at g h this p1 0) fun x1 => (if (pX13_readsA x1) = 0 then pX13_readsAll_b28 g this p1 p2 p3  x1 h else bd (pX13_at g h this p1 2) fun x4 => (bd (pX13_reads g h this x4 p2 p3) fun h6 => (pX13_readsAll_b28 g this p1 p2 p3  x1 h6))))
set_option maxRecDepth 10000 in
set_option maxHeartbeats 4000000 in
theorem pX13_readsAll_ok (G : Gx) (dk : Nat) (hK : 2 ≤ dk) {g : MT} {h h0 : CT} {this : Nat} {p1 : Int32} {p2 : Int32} {p3 : Int32} (hf : pX13_readsAll g h this p1 p2 p3 = some h0) : Ctr G dk yX13_readsAll cX13_readsAll 5 none [va_rf (some this), .int p1, .int p2, .int p3] g h none g h0 := by
  refine Ctr.ofZ (lv := [(0, va_rf (some this)), (1, .int p1), (2, .int p2), (3, .int p3)]) (by decide +kernel) (by simp [cat_i, cat_l, cat_d, cat_rf]) rfl fun X Z => ?_
  unfold pX13_readsAll at hf
  obtain ⟨t0, hf⟩ := tg_i hf
  refine J_aload_n Z.1 0 dX13_readsAll_0 rfl rfl ?_
  refine J_iload_n Z.1 1 dX13_readsAll_1 rfl rfl ?_
  refine J_iconst Z.1 (v := 0) (by decide) dX13_readsAll_2 ?_
  obtain ⟨x1, q2, hf⟩ := bd_i hf
  refine J_callV (ci := 11) (as := [.int p1, .int 0]) (rest := []) (sy := [.int x1]) Z.1 dX13_readsAll_3 cw_X13_381 (pX13_at_ok G (dk - 1) (by omega) q2) rfl rfl t0 (zG Z) rfl (by decide) (zF Z (by omega)) (zO Z (by omega) (by decide)) (zM g) Z.2.1 Z.2.1 rfl rfl ?_
  refine J_istore Z.1 (lv2 := [(4, .int x1), (0, va_rf (some this)), (1, .int p1), (2, .int p2), (3, .int p3)]) dX13_readsAll_6 (zL Z (by decide)) rfl ?_
  refine J_iload Z.1 0 dX13_readsAll_8 rfl ?_
  refine J_callS (as := [.int x1]) (rest := []) (sy := [.int (pX13_readsA x1)]) Z.1 dX13_readsAll_10 cw_X13_383 (pX13_readsA_ok G (dk - 1) (by omega) g h x1) (zG Z) rfl (by decide) (zF Z (by omega)) (zO Z (by omega) (by decide)) (zM g) Z.2.1 Z.2.1 rfl rfl ?_
  refine J_if_eq Z.1 28 dX13_readsAll_13 (by decide) (fun c3 => ?_) (fun c3 => ?_)
  · rw [if_pos c3] at hf
    refine J_lv [1, 2, 3, 4, 0] rfl ?_
    exact pX13_readsAll_b28_ok Z hK t0  _ _ hf
  · rw [if_neg c3] at hf
    refine J_aload_n Z.1 1 dX13_readsAll_16 rfl rfl ?_
    refine J_aload_n Z.1 1 dX13_readsAll_17 rfl rfl ?_
    refine J_iload_n Z.1 2 dX13_readsAll_18 rfl rfl ?_
    refine J_iconst Z.1 (v := 2) (by decide) dX13_readsAll_19 ?_
    obtain ⟨x4, q5, hf⟩ := bd_i hf
    refine J_callV (ci := 11) (as := [.int p1, .int 2]) (rest := [va_rf (some this)]) (sy := [.int x4, va_rf (some this)]) Z.1 dX13_readsAll_20 cw_X13_381 (pX13_at_ok G (dk - 1) (by omega) q5) rfl rfl t0 (zG Z) rfl (by simp [cat_i, cat_l, cat_d, cat_rf]) (zF Z (by omega)) (zO Z (by omega) (by decide)) (zM g) Z.2.1 Z.2.1 rfl rfl ?_
    refine J_iload_n Z.1 3 dX13_readsAll_23 rfl rfl ?_
    refine J_iload_n Z.1 4 dX13_readsAll_24 rfl rfl ?_
    obtain ⟨h6, q7, hf⟩ := bd_i hf
    refine J_callV (ci := 11) (as := [.int x4, .int p2, .int p3]) (rest := []) (sy := []) Z.1 dX13_readsAll_25 cw_X13_444 (pX13_reads_ok G (dk - 1) (by omega) q7) rfl rfl t0 (zG Z) rfl (by decide) (zF Z (by omega)) (zO Z (by omega) (by decide)) (zM g) Z.2.1 Z.2.1 rfl rfl ?_
    refine J_lv [1, 2, 3, 4, 0] rfl ?_
    exact pX13_readsAll_b28_ok Z hK t0  _ _ hf
theorem dX13_comes_0 : decode cX13_comes 0 = .ok (.aload_n 0, 1) := by decide +kernel
theorem dX13_comes_1 : decode cX13_comes 1 = .ok (.iload_n 1, 1) := by decide +kernel
theorem dX13_comes_2 : decode cX13_comes 2 = .ok (.invokevirtual 304, 3) := by decide +kernel
theorem dX13_comes_5 : decode cX13_comes 5 = .ok (.aload_n 0, 1) := by decide +kernel
theorem dX13_comes_6 : decode cX13_comes 6 = .ok (.getfield 34, 3) := by decide +kernel
theorem dX13_comes_9 : decode cX13_comes 9 = .ok (.bipush 16, 2) := by decide +kernel
theorem dX13_comes_11 : decode cX13_comes 11 = .ok (.iload_n 1, 1) := by decide +kernel
theorem dX13_comes_12 : decode cX13_comes 12 = .ok (.imul, 1) := by decide +kernel
theorem dX13_comes_13 : decode cX13_comes 13 = .ok (.iload_n 2, 1) := by decide +kernel
theorem dX13_comes_14 : decode cX13_comes 14 = .ok (.iadd, 1) := by decide +kernel
theorem dX13_comes_15 : decode cX13_comes 15 = .ok (.dload_n 3, 1) := by decide +kernel
theorem dX13_comes_16 : decode cX13_comes 16 = .ok (.dastore, 1) := by decide +kernel
theorem dX13_comes_17 : decode cX13_comes 17 = .ok (.return_, 1) := by decide +kernel
def pX13_comes (g : MT) (h : CT) (this : Nat) (p1 : Int32) (p2 : Int32) (p3 : UInt64) : Option CT := tg g this 12 (bd (pX13_there g h this p1) fun h1 => (lt (hR h1 this 20) fun r3 => (nn r3 fun a3 => (tg g a3 22 (ix (gL g a3) ((16 * p1) + p2) (lt (sD h1 a3 (Int32.toNatClampNeg ((16 * p1) + p2)) p3) fun h6 => (some h6)))))))
set_option maxRecDepth 10000 in
set_option maxHeartbeats 4000000 in
theorem pX13_comes_ok (G : Gx) (dk : Nat) (hK : 2 ≤ dk) {g : MT} {h h0 : CT} {this : Nat} {p1 : Int32} {p2 : Int32} {p3 : UInt64} (hf : pX13_comes g h this p1 p2 p3 = some h0) : Ctr G dk yX13_comes cX13_comes 5 none [va_rf (some this), .int p1, .int p2, .double p3] g h none g h0 := by
  refine Ctr.ofZ (lv := [(0, va_rf (some this)), (1, .int p1), (2, .int p2), (3, .double p3)]) (by decide +kernel) (by simp [cat_i, cat_l, cat_d, cat_rf]) rfl fun X Z => ?_
  unfold pX13_comes at hf
  obtain ⟨t0, hf⟩ := tg_i hf
  refine J_aload_n Z.1 0 dX13_comes_0 rfl rfl ?_
  refine J_iload_n Z.1 1 dX13_comes_1 rfl rfl ?_
  obtain ⟨h1, q2, hf⟩ := bd_i hf
  refine J_callV (ci := 11) (as := [.int p1]) (rest := []) (sy := []) Z.1 dX13_comes_2 cw_X13_304 (pX13_there_ok G (dk - 1) (by omega) q2) rfl rfl t0 (zG Z) rfl (by decide) (zF Z (by omega)) (zO Z (by omega) (by decide)) (zM g) Z.2.1 Z.2.1 rfl rfl ?_
  refine J_aload_n Z.1 0 dX13_comes_5 rfl rfl ?_
  refine J_get (v := va_rf (hR h1 this 20)) Z.1 dX13_comes_6 fl_X13_34 t0 rfl ?_
  refine J_tr (fun r3 er3 => ?_)
  replace hf := lt_i hf r3 er3
  refine J_bipush Z.1 (v := 16) (by decide) dX13_comes_9 ?_
  refine J_iload_n Z.1 1 dX13_comes_11 rfl rfl ?_
  refine J_imul Z.1 dX13_comes_12 ?_
  refine J_iload_n Z.1 2 dX13_comes_13 rfl rfl ?_
  refine J_iadd Z.1 dX13_comes_14 ?_
  refine J_dload_n Z.1 3 dX13_comes_15 rfl rfl ?_
  obtain ⟨a3, rfl, hf⟩ := nn_i hf
  obtain ⟨t4, hf⟩ := tg_i hf
  obtain ⟨i5, hf⟩ := ix_i hf
  refine J_dastore Z.1 dX13_comes_16 t4 i5 ?_
  refine J_th (fun h6 eh6 => ?_)
  replace hf := lt_i hf h6 eh6
  cases hf
  exact J_vret Z.1 Z.2.2.2.2.2 dX13_comes_17
theorem dX13_compares_0 : decode cX13_compares 0 = .ok (.aload_n 0, 1) := by decide +kernel
theorem dX13_compares_1 : decode cX13_compares 1 = .ok (.iload_n 1, 1) := by decide +kernel
theorem dX13_compares_2 : decode cX13_compares 2 = .ok (.iconst 0, 1) := by decide +kernel
theorem dX13_compares_3 : decode cX13_compares 3 = .ok (.invokevirtual 381, 3) := by decide +kernel
theorem dX13_compares_6 : decode cX13_compares 6 = .ok (.istore_n 3, 1) := by decide +kernel
theorem dX13_compares_7 : decode cX13_compares 7 = .ok (.aload_n 0, 1) := by decide +kernel
theorem dX13_compares_8 : decode cX13_compares 8 = .ok (.getfield 34, 3) := by decide +kernel
theorem dX13_compares_11 : decode cX13_compares 11 = .ok (.bipush 16, 2) := by decide +kernel
theorem dX13_compares_13 : decode cX13_compares 13 = .ok (.aload_n 0, 1) := by decide +kernel
theorem dX13_compares_14 : decode cX13_compares 14 = .ok (.iload_n 1, 1) := by decide +kernel
theorem dX13_compares_15 : decode cX13_compares 15 = .ok (.iconst 1, 1) := by decide +kernel
theorem dX13_compares_16 : decode cX13_compares 16 = .ok (.invokevirtual 381, 3) := by decide +kernel
theorem dX13_compares_19 : decode cX13_compares 19 = .ok (.imul, 1) := by decide +kernel
theorem dX13_compares_20 : decode cX13_compares 20 = .ok (.iload_n 2, 1) := by decide +kernel
theorem dX13_compares_21 : decode cX13_compares 21 = .ok (.iadd, 1) := by decide +kernel
theorem dX13_compares_22 : decode cX13_compares 22 = .ok (.daload, 1) := by decide +kernel
theorem dX13_compares_23 : decode cX13_compares 23 = .ok (.dstore 4, 2) := by decide +kernel
theorem dX13_compares_25 : decode cX13_compares 25 = .ok (.aload_n 0, 1) := by decide +kernel
theorem dX13_compares_26 : decode cX13_compares 26 = .ok (.getfield 34, 3) := by decide +kernel
theorem dX13_compares_29 : decode cX13_compares 29 = .ok (.bipush 16, 2) := by decide +kernel
theorem dX13_compares_31 : decode cX13_compares 31 = .ok (.aload_n 0, 1) := by decide +kernel
theorem dX13_compares_32 : decode cX13_compares 32 = .ok (.iload_n 1, 1) := by decide +kernel
theorem dX13_compares_33 : decode cX13_compares 33 = .ok (.iconst 2, 1) := by decide +kernel
theorem dX13_compares_34 : decode cX13_compares 34 = .ok (.invokevirtual 381, 3) := by decide +kernel
theorem dX13_compares_37 : decode cX13_compares 37 = .ok (.imul, 1) := by decide +kernel
theorem dX13_compares_38 : decode cX13_compares 38 = .ok (.iload_n 2, 1) := by decide +kernel
theorem dX13_compares_39 : decode cX13_compares 39 = .ok (.iadd, 1) := by decide +kernel
theorem dX13_compares_40 : decode cX13_compares 40 = .ok (.daload, 1) := by decide +kernel
theorem dX13_compares_41 : decode cX13_compares 41 = .ok (.dstore 6, 2) := by decide +kernel
theorem dX13_compares_43 : decode cX13_compares 43 = .ok (.iload_n 3, 1) := by decide +kernel
theorem dX13_compares_44 : decode cX13_compares 44 = .ok (.bipush 17, 2) := by decide +kernel
theorem dX13_compares_46 : decode cX13_compares 46 = .ok (.if_icmp .ne 19, 3) := by decide +kernel
theorem dX13_compares_49 : decode cX13_compares 49 = .ok (.dload 4, 2) := by decide +kernel
theorem dX13_compares_51 : decode cX13_compares 51 = .ok (.dload 6, 2) := by decide +kernel
theorem dX13_compares_53 : decode cX13_compares 53 = .ok (.dcmp .g, 1) := by decide +kernel
theorem dX13_compares_54 : decode cX13_compares 54 = .ok (.ifCond .ge 7, 3) := by decide +kernel
theorem dX13_compares_57 : decode cX13_compares 57 = .ok (.iconst 1, 1) := by decide +kernel
theorem dX13_compares_58 : decode cX13_compares 58 = .ok (.goto 42, 3) := by decide +kernel
theorem dX13_compares_61 : decode cX13_compares 61 = .ok (.iconst 0, 1) := by decide +kernel
theorem dX13_compares_62 : decode cX13_compares 62 = .ok (.goto 38, 3) := by decide +kernel
theorem dX13_compares_65 : decode cX13_compares 65 = .ok (.iload_n 3, 1) := by decide +kernel
theorem dX13_compares_66 : decode cX13_compares 66 = .ok (.bipush 18, 2) := by decide +kernel
theorem dX13_compares_68 : decode cX13_compares 68 = .ok (.if_icmp .ne 19, 3) := by decide +kernel
theorem dX13_compares_71 : decode cX13_compares 71 = .ok (.dload 4, 2) := by decide +kernel
theorem dX13_compares_73 : decode cX13_compares 73 = .ok (.dload 6, 2) := by decide +kernel
theorem dX13_compares_75 : decode cX13_compares 75 = .ok (.dcmp .l, 1) := by decide +kernel
theorem dX13_compares_76 : decode cX13_compares 76 = .ok (.ifCond .ne 7, 3) := by decide +kernel
theorem dX13_compares_79 : decode cX13_compares 79 = .ok (.iconst 1, 1) := by decide +kernel
theorem dX13_compares_80 : decode cX13_compares 80 = .ok (.goto 20, 3) := by decide +kernel
theorem dX13_compares_83 : decode cX13_compares 83 = .ok (.iconst 0, 1) := by decide +kernel
theorem dX13_compares_84 : decode cX13_compares 84 = .ok (.goto 16, 3) := by decide +kernel
theorem dX13_compares_87 : decode cX13_compares 87 = .ok (.dload 4, 2) := by decide +kernel
theorem dX13_compares_89 : decode cX13_compares 89 = .ok (.dload 4, 2) := by decide +kernel
theorem dX13_compares_91 : decode cX13_compares 91 = .ok (.dcmp .l, 1) := by decide +kernel
theorem dX13_compares_92 : decode cX13_compares 92 = .ok (.ifCond .eq 7, 3) := by decide +kernel
theorem dX13_compares_95 : decode cX13_compares 95 = .ok (.iconst 1, 1) := by decide +kernel
theorem dX13_compares_96 : decode cX13_compares 96 = .ok (.goto 4, 3) := by decide +kernel
theorem dX13_compares_99 : decode cX13_compares 99 = .ok (.iconst 0, 1) := by decide +kernel
theorem dX13_compares_100 : decode cX13_compares 100 = .ok (.istore 8, 2) := by decide +kernel
theorem dX13_compares_102 : decode cX13_compares 102 = .ok (.aload_n 0, 1) := by decide +kernel
theorem dX13_compares_103 : decode cX13_compares 103 = .ok (.getfield 31, 3) := by decide +kernel
theorem dX13_compares_106 : decode cX13_compares 106 = .ok (.iconst 3, 1) := by decide +kernel
theorem dX13_compares_107 : decode cX13_compares 107 = .ok (.aload_n 0, 1) := by decide +kernel
theorem dX13_compares_108 : decode cX13_compares 108 = .ok (.getfield 31, 3) := by decide +kernel
theorem dX13_compares_111 : decode cX13_compares 111 = .ok (.iconst 3, 1) := by decide +kernel
theorem dX13_compares_112 : decode cX13_compares 112 = .ok (.iaload, 1) := by decide +kernel
theorem dX13_compares_113 : decode cX13_compares 113 = .ok (.iconst 1, 1) := by decide +kernel
theorem dX13_compares_114 : decode cX13_compares 114 = .ok (.iload_n 2, 1) := by decide +kernel
theorem dX13_compares_115 : decode cX13_compares 115 = .ok (.ishl, 1) := by decide +kernel
theorem dX13_compares_116 : decode cX13_compares 116 = .ok (.iconst (-1), 1) := by decide +kernel
theorem dX13_compares_117 : decode cX13_compares 117 = .ok (.ixor, 1) := by decide +kernel
theorem dX13_compares_118 : decode cX13_compares 118 = .ok (.iand, 1) := by decide +kernel
theorem dX13_compares_119 : decode cX13_compares 119 = .ok (.iload 8, 2) := by decide +kernel
theorem dX13_compares_121 : decode cX13_compares 121 = .ok (.ifCond .eq 9, 3) := by decide +kernel
theorem dX13_compares_124 : decode cX13_compares 124 = .ok (.iconst 1, 1) := by decide +kernel
theorem dX13_compares_125 : decode cX13_compares 125 = .ok (.iload_n 2, 1) := by decide +kernel
theorem dX13_compares_126 : decode cX13_compares 126 = .ok (.ishl, 1) := by decide +kernel
theorem dX13_compares_127 : decode cX13_compares 127 = .ok (.goto 4, 3) := by decide +kernel
theorem dX13_compares_130 : decode cX13_compares 130 = .ok (.iconst 0, 1) := by decide +kernel
theorem dX13_compares_131 : decode cX13_compares 131 = .ok (.ior, 1) := by decide +kernel
theorem dX13_compares_132 : decode cX13_compares 132 = .ok (.iastore, 1) := by decide +kernel
theorem dX13_compares_133 : decode cX13_compares 133 = .ok (.return_, 1) := by decide +kernel
def pX13_compares_b100 (g : MT) (this : Nat) (p1 : Int32) (p2 : Int32) (s0 : Int32) (h : CT) : Option CT := lt (hR h this 19) fun r1 => (lt (hR h this 19) fun r2 => (nn r2 fun a2 => (tg g a2 20 (ix (gL g a2) 3 (if s0 = 0 then nn r1 fun a1 => (tg g a1 20 (ix (gL g a1) 3 (lt (sI h a1 (Int32.toNatClampNeg 3) (((hI h a2 (Int32.toNatClampNeg 3)) &&& (((1 : Int32) <<< (p2 &&& 31)) ^^^ (-1))) ||| 0)) fun h8 => (some h8)))) else nn r1 fun a1 => (tg g a1 20 (ix (gL g a1) 3 (lt (sI h a1 (Int32.toNatClampNeg 3) (((hI h a2 (Int32.toNatClampNeg 3)) &&& (((1 : Int32) <<< (p2 &&& 31)) ^^^ (-1))) ||| ((1 : Int32) <<< (p2 &&& 31)))) fun h11 => (some h11)))))))))
set_option maxRecDepth 10000 in
set_option maxHeartbeats 4000000 in
theorem pX13_compares_b100_ok {X : Cx} {G : Gx} {dk : Nat} {g : MT} {h0 : CT} {this : Nat} {p1 : Int32} {p2 : Int32} (Z : Zx X G cX13_compares RX13 9 dk none none g h0) (hK : 1 ≤ dk) (t0 : gT g this = 12) (s0 : Int32) (h : CT) (hf : pX13_compares_b100 g this p1 p2 s0 h = some h0) : J X g h 100 [(0, va_rf (some this)), (2, .int p2)] [.int s0] := by
  unfold pX13_compares_b100 at hf
  refine J_istore Z.1 (lv2 := [(8, .int s0), (0, va_rf (some this)), (2, .int p2)]) dX13_compares_100 (zL Z (by decide)) rfl ?_
  refine J_aload_n Z.1 1 dX13_compares_102 rfl rfl ?_
  refine J_get (v := va_rf (hR h this 19)) Z.1 dX13_compares_103 fl_X13_31 t0 rfl ?_
  refine J_tr (fun r1 er1 => ?_)
  replace hf := lt_i hf r1 er1
  refine J_iconst Z.1 (v := 3) (by decide) dX13_compares_106 ?_
  refine J_aload_n Z.1 1 dX13_compares_107 rfl rfl ?_
  refine J_get (v := va_rf (hR h this 19)) Z.1 dX13_compares_108 fl_X13_31 t0 rfl ?_
  refine J_tr (fun r2 er2 => ?_)
  replace hf := lt_i hf r2 er2
  refine J_iconst Z.1 (v := 3) (by decide) dX13_compares_111 ?_
  obtain ⟨a2, rfl, hf⟩ := nn_i hf
  obtain ⟨t3, hf⟩ := tg_i hf
  obtain ⟨i4, hf⟩ := ix_i hf
  refine J_iaload Z.1 dX13_compares_112 t3 i4 ?_
  refine J_iconst Z.1 (v := 1) (by decide) dX13_compares_113 ?_
  refine J_iload_n Z.1 2 dX13_compares_114 rfl rfl ?_
  refine J_ishl Z.1 dX13_compares_115 ?_
  refine J_iconst Z.1 (v := (-1)) (by decide) dX13_compares_116 ?_
  refine J_ixor Z.1 dX13_compares_117 ?_
  refine J_iand Z.1 dX13_compares_118 ?_
  refine J_iload Z.1 0 dX13_compares_119 rfl ?_
  refine J_if_eq Z.1 130 dX13_compares_121 (by decide) (fun c5 => ?_) (fun c5 => ?_)
  · rw [if_pos c5] at hf
    refine J_iconst Z.1 (v := 0) (by decide) dX13_compares_130 ?_
    refine J_ior Z.1 dX13_compares_131 ?_
    obtain ⟨a1, rfl, hf⟩ := nn_i hf
    obtain ⟨t6, hf⟩ := tg_i hf
    obtain ⟨i7, hf⟩ := ix_i hf
    refine J_iastore Z.1 dX13_compares_132 t6 i7 ?_
    refine J_th (fun h8 eh8 => ?_)
    replace hf := lt_i hf h8 eh8
    cases hf
    exact J_vret Z.1 Z.2.2.2.2.2 dX13_compares_133
  · rw [if_neg c5] at hf
    refine J_iconst Z.1 (v := 1) (by decide) dX13_compares_124 ?_
    refine J_iload_n Z.1 2 dX13_compares_125 rfl rfl ?_
    refine J_ishl Z.1 dX13_compares_126 ?_
    refine J_goto Z.1 131 dX13_compares_127 (by decide) ?_
    refine J_ior Z.1 dX13_compares_131 ?_
    obtain ⟨a1, rfl, hf⟩ := nn_i hf
    obtain ⟨t9, hf⟩ := tg_i hf
    obtain ⟨i10, hf⟩ := ix_i hf
    refine J_iastore Z.1 dX13_compares_132 t9 i10 ?_
    refine J_th (fun h11 eh11 => ?_)
    replace hf := lt_i hf h11 eh11
    cases hf
    exact J_vret Z.1 Z.2.2.2.2.2 dX13_compares_133
def pX13_compares (g : MT) (h : CT) (this : Nat) (p1 : Int32) (p2 : Int32) : Option CT := tg g this 12 (bd (pX13_at g h this p1 0) fun x1 => (lt (hR h this 20) fun r3 => (bd (pX13_at g h this p1 1) fun x4 => (nn r3 fun a3 => (tg g a3 22 (ix (gL g a3) ((16 * x4) + p2) (lt (hD h a3 (Int32.toNatClampNeg ((16 * x4) + p2))) fun x8 => (lt (hR h this 20) fun r9 => (bd (pX13_at g h this p1 2) fun x10 => (nn r9 fun a9 => (tg g a9 22 (ix (gL g a9) ((16 * x10) + p2) (lt (hD h a9 (Int32.toNatClampNeg ((16 * x10) + p2))) fun x14 => (if x1 = 17 then if 0 ≤ (Op.cmpValue (FP.dcmp x8 x14) .g) then pX13_compares_b100 g this p1 p2  0 h else pX13_compares_b100 g this p1 p2  1 h else if x1 = 18 then if (Op.cmpValue (FP.dcmp x8 x14) .l) = 0 then pX13_compares_b100 g this p1 p2  1 h else pX13_compares_b100 g this p1 p2  0 h else if (Op.cmpValue (FP.dcmp x8 x8) .l) = 0 then pX13_compares_b100 g this p1 p2  0 h else pX13_compares_b100 g this p1 p2  1 h))))))))))))))
set_option maxRecDepth 10000 in
set_option maxHeartbeats 4000000 in
theorem pX13_compares_ok (G : Gx) (dk : Nat) (hK : 1 ≤ dk) {g : MT} {h h0 : CT} {this : Nat} {p1 : Int32} {p2 : Int32} (hf : pX13_compares g h this p1 p2 = some h0) : Ctr G dk yX13_compares cX13_compares 9 none [va_rf (some this), .int p1, .int p2] g h none g h0 := by
  refine Ctr.ofZ (lv := [(0, va_rf (some this)), (1, .int p1), (2, .int p2)]) (by decide +kernel) (by simp [cat_i, cat_l, cat_d, cat_rf]) rfl fun X Z => ?_
  unfold pX13_compares at hf
  obtain ⟨t0, hf⟩ := tg_i hf
  refine J_aload_n Z.1 0 dX13_compares_0 rfl rfl ?_
  refine J_iload_n Z.1 1 dX13_compares_1 rfl rfl ?_
  refine J_iconst Z.1 (v := 0) (by decide) dX13_compares_2 ?_
  obtain ⟨x1, q2, hf⟩ := bd_i hf
  refine J_callV (ci := 11) (as := [.int p1, .int 0]) (rest := []) (sy := [.int x1]) Z.1 dX13_compares_3 cw_X13_381 (pX13_at_ok G (dk - 1) (by omega) q2) rfl rfl t0 (zG Z) rfl (by decide) (zF Z (by omega)) (zO Z (by omega) (by decide)) (zM g) Z.2.1 Z.2.1 rfl rfl ?_
  refine J_istore_n Z.1 (lv2 := [(3, .int x1), (0, va_rf (some this)), (1, .int p1), (2, .int p2)]) dX13_compares_6 rfl (zL Z (by decide)) rfl ?_
  refine J_aload_n Z.1 1 dX13_compares_7 rfl rfl ?_
  refine J_get (v := va_rf (hR h this 20)) Z.1 dX13_compares_8 fl_X13_34 t0 rfl ?_
  refine J_tr (fun r3 er3 => ?_)
  replace hf := lt_i hf r3 er3
  refine J_bipush Z.1 (v := 16) (by decide) dX13_compares_11 ?_
  refine J_aload_n Z.1 1 dX13_compares_13 rfl rfl ?_
  refine J_iload_n Z.1 2 dX13_compares_14 rfl rfl ?_
  refine J_iconst Z.1 (v := 1) (by decide) dX13_compares_15 ?_
  obtain ⟨x4, q5, hf⟩ := bd_i hf
  refine J_callV (ci := 11) (as := [.int p1, .int 1]) (rest := [.int 16, va_rf r3]) (sy := [.int x4, .int 16, va_rf r3]) Z.1 dX13_compares_16 cw_X13_381 (pX13_at_ok G (dk - 1) (by omega) q5) rfl rfl t0 (zG Z) rfl (by simp [cat_i, cat_l, cat_d, cat_rf]) (zF Z (by omega)) (zO Z (by omega) (by decide)) (zM g) Z.2.1 Z.2.1 rfl rfl ?_
  refine J_imul Z.1 dX13_compares_19 ?_
  refine J_iload_n Z.1 3 dX13_compares_20 rfl rfl ?_
  refine J_iadd Z.1 dX13_compares_21 ?_
  obtain ⟨a3, rfl, hf⟩ := nn_i hf
  obtain ⟨t6, hf⟩ := tg_i hf
  obtain ⟨i7, hf⟩ := ix_i hf
  refine J_daload Z.1 dX13_compares_22 t6 i7 ?_
  refine J_td (fun x8 ex8 => ?_)
  replace hf := lt_i hf x8 ex8
  refine J_dstore Z.1 (lv2 := [(4, .double x8), (3, .int x1), (0, va_rf (some this)), (1, .int p1), (2, .int p2)]) dX13_compares_23 (zL Z (by decide)) rfl ?_
  refine J_aload_n Z.1 2 dX13_compares_25 rfl rfl ?_
  refine J_get (v := va_rf (hR h this 20)) Z.1 dX13_compares_26 fl_X13_34 t0 rfl ?_
  refine J_tr (fun r9 er9 => ?_)
  replace hf := lt_i hf r9 er9
  refine J_bipush Z.1 (v := 16) (by decide) dX13_compares_29 ?_
  refine J_aload_n Z.1 2 dX13_compares_31 rfl rfl ?_
  refine J_iload_n Z.1 3 dX13_compares_32 rfl rfl ?_
  refine J_iconst Z.1 (v := 2) (by decide) dX13_compares_33 ?_
  obtain ⟨x10, q11, hf⟩ := bd_i hf
  refine J_callV (ci := 11) (as := [.int p1, .int 2]) (rest := [.int 16, va_rf r9]) (sy := [.int x10, .int 16, va_rf r9]) Z.1 dX13_compares_34 cw_X13_381 (pX13_at_ok G (dk - 1) (by omega) q11) rfl rfl t0 (zG Z) rfl (by simp [cat_i, cat_l, cat_d, cat_rf]) (zF Z (by omega)) (zO Z (by omega) (by decide)) (zM g) Z.2.1 Z.2.1 rfl rfl ?_
  refine J_imul Z.1 dX13_compares_37 ?_
  refine J_iload_n Z.1 4 dX13_compares_38 rfl rfl ?_
  refine J_iadd Z.1 dX13_compares_39 ?_
  obtain ⟨a9, rfl, hf⟩ := nn_i hf
  obtain ⟨t12, hf⟩ := tg_i hf
  obtain ⟨i13, hf⟩ := ix_i hf
  refine J_daload Z.1 dX13_compares_40 t12 i13 ?_
  refine J_td (fun x14 ex14 => ?_)
  replace hf := lt_i hf x14 ex14
  refine J_dstore Z.1 (lv2 := [(6, .double x14), (4, .double x8), (3, .int x1), (0, va_rf (some this)), (1, .int p1), (2, .int p2)]) dX13_compares_41 (zL Z (by decide)) rfl ?_
  refine J_iload_n Z.1 2 dX13_compares_43 rfl rfl ?_
  refine J_bipush Z.1 (v := 17) (by decide) dX13_compares_44 ?_
  refine J_icmp_ne Z.1 65 dX13_compares_46 (by decide) (fun c15 => ?_) (fun c15 => ?_)
  · rw [if_neg c15] at hf
    refine J_iload_n Z.1 2 dX13_compares_65 rfl rfl ?_
    refine J_bipush Z.1 (v := 18) (by decide) dX13_compares_66 ?_
    refine J_icmp_ne Z.1 87 dX13_compares_68 (by decide) (fun c16 => ?_) (fun c16 => ?_)
    · rw [if_neg c16] at hf
      refine J_dload Z.1 1 dX13_compares_87 rfl ?_
      refine J_dload Z.1 1 dX13_compares_89 rfl ?_
      refine J_dcmp Z.1 dX13_compares_91 ?_
      refine J_if_eq Z.1 99 dX13_compares_92 (by decide) (fun c17 => ?_) (fun c17 => ?_)
      · rw [if_pos c17] at hf
        refine J_iconst Z.1 (v := 0) (by decide) dX13_compares_99 ?_
        refine J_lv [3, 5] rfl ?_
        exact pX13_compares_b100_ok Z hK t0  _ _ hf
      · rw [if_neg c17] at hf
        refine J_iconst Z.1 (v := 1) (by decide) dX13_compares_95 ?_
        refine J_goto Z.1 100 dX13_compares_96 (by decide) ?_
        refine J_lv [3, 5] rfl ?_
        exact pX13_compares_b100_ok Z hK t0  _ _ hf
    · rw [if_pos c16] at hf
      refine J_dload Z.1 1 dX13_compares_71 rfl ?_
      refine J_dload Z.1 0 dX13_compares_73 rfl ?_
      refine J_dcmp Z.1 dX13_compares_75 ?_
      refine J_if_ne Z.1 83 dX13_compares_76 (by decide) (fun c18 => ?_) (fun c18 => ?_)
      · rw [if_neg c18] at hf
        refine J_iconst Z.1 (v := 0) (by decide) dX13_compares_83 ?_
        refine J_goto Z.1 100 dX13_compares_84 (by decide) ?_
        refine J_lv [3, 5] rfl ?_
        exact pX13_compares_b100_ok Z hK t0  _ _ hf
      · rw [if_pos c18] at hf
        refine J_iconst Z.1 (v := 1) (by decide) dX13_compares_79 ?_
        refine J_goto Z.1 100 dX13_compares_80 (by decide) ?_
        refine J_lv [3, 5] rfl ?_
        exact pX13_compares_b100_ok Z hK t0  _ _ hf
  · rw [if_pos c15] at hf
    refine J_dload Z.1 1 dX13_compares_49 rfl ?_
    refine J_dload Z.1 0 dX13_compares_51 rfl ?_
    refine J_dcmp Z.1 dX13_compares_53 ?_
    refine J_if_ge Z.1 61 dX13_compares_54 (by decide) (fun c19 => ?_) (fun c19 => ?_)
    · rw [if_pos c19] at hf
      refine J_iconst Z.1 (v := 0) (by decide) dX13_compares_61 ?_
      refine J_goto Z.1 100 dX13_compares_62 (by decide) ?_
      refine J_lv [3, 5] rfl ?_
      exact pX13_compares_b100_ok Z hK t0  _ _ hf
    · rw [if_neg c19] at hf
      refine J_iconst Z.1 (v := 1) (by decide) dX13_compares_57 ?_
      refine J_goto Z.1 100 dX13_compares_58 (by decide) ?_
      refine J_lv [3, 5] rfl ?_
      exact pX13_compares_b100_ok Z hK t0  _ _ hf
theorem dX13_settles_0 : decode cX13_settles 0 = .ok (.aload_n 0, 1) := by decide +kernel
theorem dX13_settles_1 : decode cX13_settles 1 = .ok (.iload_n 1, 1) := by decide +kernel
theorem dX13_settles_2 : decode cX13_settles 2 = .ok (.iconst 0, 1) := by decide +kernel
theorem dX13_settles_3 : decode cX13_settles 3 = .ok (.invokevirtual 381, 3) := by decide +kernel
theorem dX13_settles_6 : decode cX13_settles 6 = .ok (.istore_n 3, 1) := by decide +kernel
theorem dX13_settles_7 : decode cX13_settles 7 = .ok (.aload_n 0, 1) := by decide +kernel
theorem dX13_settles_8 : decode cX13_settles 8 = .ok (.getfield 44, 3) := by decide +kernel
theorem dX13_settles_11 : decode cX13_settles 11 = .ok (.iload_n 3, 1) := by decide +kernel
theorem dX13_settles_12 : decode cX13_settles 12 = .ok (.invokestatic 395, 3) := by decide +kernel
theorem dX13_settles_15 : decode cX13_settles 15 = .ok (.iload_n 2, 1) := by decide +kernel
theorem dX13_settles_16 : decode cX13_settles 16 = .ok (.iconst 1, 1) := by decide +kernel
theorem dX13_settles_17 : decode cX13_settles 17 = .ok (.iadd, 1) := by decide +kernel
theorem dX13_settles_18 : decode cX13_settles 18 = .ok (.iastore, 1) := by decide +kernel
theorem dX13_settles_19 : decode cX13_settles 19 = .ok (.iload_n 3, 1) := by decide +kernel
theorem dX13_settles_20 : decode cX13_settles 20 = .ok (.invokestatic 354, 3) := by decide +kernel
theorem dX13_settles_23 : decode cX13_settles 23 = .ok (.ifCond .eq 18, 3) := by decide +kernel
theorem dX13_settles_26 : decode cX13_settles 26 = .ok (.aload_n 0, 1) := by decide +kernel
theorem dX13_settles_27 : decode cX13_settles 27 = .ok (.iload_n 2, 1) := by decide +kernel
theorem dX13_settles_28 : decode cX13_settles 28 = .ok (.iconst 3, 1) := by decide +kernel
theorem dX13_settles_29 : decode cX13_settles 29 = .ok (.iadd, 1) := by decide +kernel
theorem dX13_settles_30 : decode cX13_settles 30 = .ok (.putfield 404, 3) := by decide +kernel
theorem dX13_settles_33 : decode cX13_settles 33 = .ok (.aload_n 0, 1) := by decide +kernel
theorem dX13_settles_34 : decode cX13_settles 34 = .ok (.aload_n 0, 1) := by decide +kernel
theorem dX13_settles_35 : decode cX13_settles 35 = .ok (.getfield 404, 3) := by decide +kernel
theorem dX13_settles_38 : decode cX13_settles 38 = .ok (.invokevirtual 478, 3) := by decide +kernel
theorem dX13_settles_41 : decode cX13_settles 41 = .ok (.iload_n 3, 1) := by decide +kernel
theorem dX13_settles_42 : decode cX13_settles 42 = .ok (.bipush 21, 2) := by decide +kernel
theorem dX13_settles_44 : decode cX13_settles 44 = .ok (.if_icmp .eq 14, 3) := by decide +kernel
theorem dX13_settles_47 : decode cX13_settles 47 = .ok (.aload_n 0, 1) := by decide +kernel
theorem dX13_settles_48 : decode cX13_settles 48 = .ok (.iload_n 1, 1) := by decide +kernel
theorem dX13_settles_49 : decode cX13_settles 49 = .ok (.bipush 6, 2) := by decide +kernel
theorem dX13_settles_51 : decode cX13_settles 51 = .ok (.invokevirtual 381, 3) := by decide +kernel
theorem dX13_settles_54 : decode cX13_settles 54 = .ok (.iconst 1, 1) := by decide +kernel
theorem dX13_settles_55 : decode cX13_settles 55 = .ok (.if_icmp .ne 15, 3) := by decide +kernel
theorem dX13_settles_58 : decode cX13_settles 58 = .ok (.aload_n 0, 1) := by decide +kernel
theorem dX13_settles_59 : decode cX13_settles 59 = .ok (.aload_n 0, 1) := by decide +kernel
theorem dX13_settles_60 : decode cX13_settles 60 = .ok (.getfield 407, 3) := by decide +kernel
theorem dX13_settles_63 : decode cX13_settles 63 = .ok (.iload_n 2, 1) := by decide +kernel
theorem dX13_settles_64 : decode cX13_settles 64 = .ok (.invokestatic 178, 3) := by decide +kernel
theorem dX13_settles_67 : decode cX13_settles 67 = .ok (.putfield 407, 3) := by decide +kernel
theorem dX13_settles_70 : decode cX13_settles 70 = .ok (.iconst 0, 1) := by decide +kernel
theorem dX13_settles_71 : decode cX13_settles 71 = .ok (.istore 4, 2) := by decide +kernel
theorem dX13_settles_73 : decode cX13_settles 73 = .ok (.iload 4, 2) := by decide +kernel
theorem dX13_settles_75 : decode cX13_settles 75 = .ok (.aload_n 0, 1) := by decide +kernel
theorem dX13_settles_76 : decode cX13_settles 76 = .ok (.getfield 468, 3) := by decide +kernel
theorem dX13_settles_79 : decode cX13_settles 79 = .ok (.if_icmp .ge 36, 3) := by decide +kernel
theorem dX13_settles_82 : decode cX13_settles 82 = .ok (.aload_n 0, 1) := by decide +kernel
theorem dX13_settles_83 : decode cX13_settles 83 = .ok (.getfield 38, 3) := by decide +kernel
theorem dX13_settles_86 : decode cX13_settles 86 = .ok (.bipush 16, 2) := by decide +kernel
theorem dX13_settles_88 : decode cX13_settles 88 = .ok (.aload_n 0, 1) := by decide +kernel
theorem dX13_settles_89 : decode cX13_settles 89 = .ok (.iload_n 1, 1) := by decide +kernel
theorem dX13_settles_90 : decode cX13_settles 90 = .ok (.iconst 1, 1) := by decide +kernel
theorem dX13_settles_91 : decode cX13_settles 91 = .ok (.invokevirtual 381, 3) := by decide +kernel
theorem dX13_settles_94 : decode cX13_settles 94 = .ok (.imul, 1) := by decide +kernel
theorem dX13_settles_95 : decode cX13_settles 95 = .ok (.iload 4, 2) := by decide +kernel
theorem dX13_settles_97 : decode cX13_settles 97 = .ok (.iadd, 1) := by decide +kernel
theorem dX13_settles_98 : decode cX13_settles 98 = .ok (.iload_n 2, 1) := by decide +kernel
theorem dX13_settles_99 : decode cX13_settles 99 = .ok (.iconst 3, 1) := by decide +kernel
theorem dX13_settles_100 : decode cX13_settles 100 = .ok (.iadd, 1) := by decide +kernel
theorem dX13_settles_101 : decode cX13_settles 101 = .ok (.iastore, 1) := by decide +kernel
theorem dX13_settles_102 : decode cX13_settles 102 = .ok (.aload_n 0, 1) := by decide +kernel
theorem dX13_settles_103 : decode cX13_settles 103 = .ok (.iload_n 2, 1) := by decide +kernel
theorem dX13_settles_104 : decode cX13_settles 104 = .ok (.iconst 3, 1) := by decide +kernel
theorem dX13_settles_105 : decode cX13_settles 105 = .ok (.iadd, 1) := by decide +kernel
theorem dX13_settles_106 : decode cX13_settles 106 = .ok (.invokevirtual 478, 3) := by decide +kernel
theorem dX13_settles_109 : decode cX13_settles 109 = .ok (.iinc 4 1, 3) := by decide +kernel
theorem dX13_settles_112 : decode cX13_settles 112 = .ok (.goto (-39), 3) := by decide +kernel
theorem dX13_settles_115 : decode cX13_settles 115 = .ok (.return_, 1) := by decide +kernel
def pX13_settles_b73 (g : MT) (this : Nat) (p1 : Int32) (p2 : Int32) (k73 : Int32 → CT → Option CT) (l4 : Int32) (h : CT) : Option CT := if (hI h this 42) ≤ l4 then some h else lt (hR h this 23) fun r2 => (bd (pX13_at g h this p1 1) fun x3 => (nn r2 fun a2 => (tg g a2 20 (ix (gL g a2) ((16 * x3) + l4) (lt (sI h a2 (Int32.toNatClampNeg ((16 * x3) + l4)) (p2 + 3)) fun h7 => (bd (pX13_lasts g h7 this (p2 + 3)) fun h8 => (lt (l4 + 1) fun x10 => (k73 x10 h8))))))))
set_option maxRecDepth 10000 in
set_option maxHeartbeats 4000000 in
theorem pX13_settles_b73_ok {X : Cx} {G : Gx} {dk : Nat} {g : MT} {h0 : CT} {this : Nat} {p1 : Int32} {p2 : Int32} {k73 : Int32 → CT → Option CT} (Z : Zx X G cX13_settles RX13 5 dk none none g h0) (hK : 3 ≤ dk) (t0 : gT g this = 12) (hk73 : ∀ (l4 : Int32) (h : CT), k73 l4 h = some h0 → J X g h 73 [(0, va_rf (some this)), (1, .int p1), (2, .int p2), (4, .int l4)] []) (l4 : Int32) (h : CT) (hf : pX13_settles_b73 g this p1 p2 k73 l4 h = some h0) : J X g h 73 [(0, va_rf (some this)), (1, .int p1), (2, .int p2), (4, .int l4)] [] := by
  unfold pX13_settles_b73 at hf
  refine J_iload Z.1 3 dX13_settles_73 rfl ?_
  refine J_aload_n Z.1 0 dX13_settles_75 rfl rfl ?_
  refine J_get (v := .int (hI h this 42)) Z.1 dX13_settles_76 fl_X13_468 t0 rfl ?_
  refine J_icmp_ge Z.1 115 dX13_settles_79 (by decide) (fun c1 => ?_) (fun c1 => ?_)
  · rw [if_pos c1] at hf
    cases hf
    exact J_vret Z.1 Z.2.2.2.2.2 dX13_settles_115
  · rw [if_neg c1] at hf
    refine J_aload_n Z.1 0 dX13_settles_82 rfl rfl ?_
    refine J_get (v := va_rf (hR h this 23)) Z.1 dX13_settles_83 fl_X13_38 t0 rfl ?_
    refine J_tr (fun r2 er2 => ?_)
    replace hf := lt_i hf r2 er2
    refine J_bipush Z.1 (v := 16) (by decide) dX13_settles_86 ?_
    refine J_aload_n Z.1 0 dX13_settles_88 rfl rfl ?_
    refine J_iload_n Z.1 1 dX13_settles_89 rfl rfl ?_
    refine J_iconst Z.1 (v := 1) (by decide) dX13_settles_90 ?_
    obtain ⟨x3, q4, hf⟩ := bd_i hf
    refine J_callV (ci := 11) (as := [.int p1, .int 1]) (rest := [.int 16, va_rf r2]) (sy := [.int x3, .int 16, va_rf r2]) Z.1 dX13_settles_91 cw_X13_381 (pX13_at_ok G (dk - 1) (by omega) q4) rfl rfl t0 (zG Z) rfl (by simp [cat_i, cat_l, cat_d, cat_rf]) (zF Z (by omega)) (zO Z (by omega) (by decide)) (zM g) Z.2.1 Z.2.1 rfl rfl ?_
    refine J_imul Z.1 dX13_settles_94 ?_
    refine J_iload Z.1 3 dX13_settles_95 rfl ?_
    refine J_iadd Z.1 dX13_settles_97 ?_
    refine J_iload_n Z.1 2 dX13_settles_98 rfl rfl ?_
    refine J_iconst Z.1 (v := 3) (by decide) dX13_settles_99 ?_
    refine J_iadd Z.1 dX13_settles_100 ?_
    obtain ⟨a2, rfl, hf⟩ := nn_i hf
    obtain ⟨t5, hf⟩ := tg_i hf
    obtain ⟨i6, hf⟩ := ix_i hf
    refine J_iastore Z.1 dX13_settles_101 t5 i6 ?_
    refine J_th (fun h7 eh7 => ?_)
    replace hf := lt_i hf h7 eh7
    refine J_aload_n Z.1 0 dX13_settles_102 rfl rfl ?_
    refine J_iload_n Z.1 2 dX13_settles_103 rfl rfl ?_
    refine J_iconst Z.1 (v := 3) (by decide) dX13_settles_104 ?_
    refine J_iadd Z.1 dX13_settles_105 ?_
    obtain ⟨h8, q9, hf⟩ := bd_i hf
    refine J_callV (ci := 11) (as := [.int (p2 + 3)]) (rest := []) (sy := []) Z.1 dX13_settles_106 cw_X13_478 (pX13_lasts_ok G (dk - 1) (by omega) q9) rfl rfl t0 (zG Z) rfl (by decide) (zF Z (by omega)) (zO Z (by omega) (by decide)) (zM g) Z.2.1 Z.2.1 rfl rfl ?_
    refine J_iinc Z.1 (v := 1) (lv2 := [(4, .int (l4 + 1)), (0, va_rf (some this)), (1, .int p1), (2, .int p2)]) 3 dX13_settles_109 rfl (by decide) (zL Z (by decide)) rfl ?_
    obtain ⟨x10, ex10⟩ : ∃ z, z = (l4 + 1) := ⟨_, rfl⟩
    replace hf := lt_i hf x10 ex10
    rw [← ex10]
    refine J_goto Z.1 73 dX13_settles_112 (by decide) ?_
    refine J_lv [1, 2, 3, 0] rfl ?_
    exact hk73 _ _ hf
def pX13_settles_l73 (g : MT) (this : Nat) (p1 : Int32) (p2 : Int32) : Nat → Int32 → CT → Option CT
  | 0, _, _ => none
  | n + 1, l4, h => pX13_settles_b73 g this p1 p2 (pX13_settles_l73 g this p1 p2 n) l4 h
theorem pX13_settles_l73_ok {X : Cx} {G : Gx} {dk : Nat} {g : MT} {h0 : CT} {this : Nat} {p1 : Int32} {p2 : Int32} (Z : Zx X G cX13_settles RX13 5 dk none none g h0) (hK : 3 ≤ dk) (t0 : gT g this = 12) : ∀ (n : Nat) (l4 : Int32) (h : CT), pX13_settles_l73 g this p1 p2 n l4 h = some h0 → J X g h 73 [(0, va_rf (some this)), (1, .int p1), (2, .int p2), (4, .int l4)] [] := by
  intro n
  induction n with
  | zero => intro l4 h hf; cases hf
  | succ n ih => intro l4 h hf; exact pX13_settles_b73_ok Z hK t0 ih l4 h hf
def pX13_settles_b70 (g : MT) (this : Nat) (p1 : Int32) (p2 : Int32) (h : CT) : Option CT := pX13_settles_l73 g this p1 p2  FUEL 0 h
set_option maxRecDepth 10000 in
set_option maxHeartbeats 4000000 in
theorem pX13_settles_b70_ok {X : Cx} {G : Gx} {dk : Nat} {g : MT} {h0 : CT} {this : Nat} {p1 : Int32} {p2 : Int32} (Z : Zx X G cX13_settles RX13 5 dk none none g h0) (hK : 3 ≤ dk) (t0 : gT g this = 12) (h : CT) (hf : pX13_settles_b70 g this p1 p2 h = some h0) : J X g h 70 [(0, va_rf (some this)), (1, .int p1), (2, .int p2)] [] := by
  unfold pX13_settles_b70 at hf
  refine J_iconst Z.1 (v := 0) (by decide) dX13_settles_70 ?_
  refine J_istore Z.1 (lv2 := [(4, .int 0), (0, va_rf (some this)), (1, .int p1), (2, .int p2)]) dX13_settles_71 (zL Z (by decide)) rfl ?_
  refine J_lv [1, 2, 3, 0] rfl ?_
  exact pX13_settles_l73_ok Z hK t0  FUEL _ _ hf
def pX13_settles_b58 (g : MT) (this : Nat) (p1 : Int32) (p2 : Int32) (h : CT) : Option CT := lt (sI h this 30 (pJ9_max_7cf53 (hI h this 30) p2)) fun h1 => (pX13_settles_b70 g this p1 p2  h1)
set_option maxRecDepth 10000 in
set_option maxHeartbeats 4000000 in
theorem pX13_settles_b58_ok {X : Cx} {G : Gx} {dk : Nat} {g : MT} {h0 : CT} {this : Nat} {p1 : Int32} {p2 : Int32} (Z : Zx X G cX13_settles RX13 5 dk none none g h0) (hK : 3 ≤ dk) (t0 : gT g this = 12) (h : CT) (hf : pX13_settles_b58 g this p1 p2 h = some h0) : J X g h 58 [(0, va_rf (some this)), (1, .int p1), (2, .int p2)] [] := by
  unfold pX13_settles_b58 at hf
  refine J_aload_n Z.1 0 dX13_settles_58 rfl rfl ?_
  refine J_aload_n Z.1 0 dX13_settles_59 rfl rfl ?_
  refine J_get (v := .int (hI h this 30)) Z.1 dX13_settles_60 fl_X13_407 t0 rfl ?_
  refine J_iload_n Z.1 2 dX13_settles_63 rfl rfl ?_
  refine J_callS (as := [.int (hI h this 30), .int p2]) (rest := [va_rf (some this)]) (sy := [.int (pJ9_max_7cf53 (hI h this 30) p2), va_rf (some this)]) Z.1 dX13_settles_64 cw_X13_178 (pJ9_max_7cf53_ok G (dk - 1) (by omega) g h (hI h this 30) p2) (zG Z) rfl (by simp [cat_i, cat_l, cat_d, cat_rf]) (zF Z (by omega)) (zO Z (by omega) (by decide)) (zM g) Z.2.1 Z.2.1 rfl rfl ?_
  refine J_putI Z.1 dX13_settles_67 fl_X13_407 (fun q => by cases q) t0 rfl rfl (congrArg Value.int (hI_s _ _ _ _)) ?_
  refine J_th (fun h1 eh1 => ?_)
  replace hf := lt_i hf h1 eh1
  exact pX13_settles_b70_ok Z hK t0  _ hf
def pX13_settles_b41 (g : MT) (this : Nat) (p1 : Int32) (p2 : Int32) (l3 : Int32) (h : CT) : Option CT := if l3 = 21 then pX13_settles_b58 g this p1 p2  h else bd (pX13_at g h this p1 6) fun x2 => (if x2 = 1 then pX13_settles_b58 g this p1 p2  h else pX13_settles_b70 g this p1 p2  h)
set_option maxRecDepth 10000 in
set_option maxHeartbeats 4000000 in
theorem pX13_settles_b41_ok {X : Cx} {G : Gx} {dk : Nat} {g : MT} {h0 : CT} {this : Nat} {p1 : Int32} {p2 : Int32} (Z : Zx X G cX13_settles RX13 5 dk none none g h0) (hK : 3 ≤ dk) (t0 : gT g this = 12) (l3 : Int32) (h : CT) (hf : pX13_settles_b41 g this p1 p2 l3 h = some h0) : J X g h 41 [(0, va_rf (some this)), (1, .int p1), (2, .int p2), (3, .int l3)] [] := by
  unfold pX13_settles_b41 at hf
  refine J_iload_n Z.1 3 dX13_settles_41 rfl rfl ?_
  refine J_bipush Z.1 (v := 21) (by decide) dX13_settles_42 ?_
  refine J_icmp_eq Z.1 58 dX13_settles_44 (by decide) (fun c1 => ?_) (fun c1 => ?_)
  · rw [if_pos c1] at hf
    refine J_lv [0, 1, 2] rfl ?_
    exact pX13_settles_b58_ok Z hK t0  _ hf
  · rw [if_neg c1] at hf
    refine J_aload_n Z.1 0 dX13_settles_47 rfl rfl ?_
    refine J_iload_n Z.1 1 dX13_settles_48 rfl rfl ?_
    refine J_bipush Z.1 (v := 6) (by decide) dX13_settles_49 ?_
    obtain ⟨x2, q3, hf⟩ := bd_i hf
    refine J_callV (ci := 11) (as := [.int p1, .int 6]) (rest := []) (sy := [.int x2]) Z.1 dX13_settles_51 cw_X13_381 (pX13_at_ok G (dk - 1) (by omega) q3) rfl rfl t0 (zG Z) rfl (by decide) (zF Z (by omega)) (zO Z (by omega) (by decide)) (zM g) Z.2.1 Z.2.1 rfl rfl ?_
    refine J_iconst Z.1 (v := 1) (by decide) dX13_settles_54 ?_
    refine J_icmp_ne Z.1 70 dX13_settles_55 (by decide) (fun c4 => ?_) (fun c4 => ?_)
    · rw [if_neg c4] at hf
      refine J_lv [0, 1, 2] rfl ?_
      exact pX13_settles_b70_ok Z hK t0  _ hf
    · rw [if_pos c4] at hf
      refine J_lv [0, 1, 2] rfl ?_
      exact pX13_settles_b58_ok Z hK t0  _ hf
def pX13_settles (g : MT) (h : CT) (this : Nat) (p1 : Int32) (p2 : Int32) : Option CT := tg g this 12 (bd (pX13_at g h this p1 0) fun x1 => (lt (hR h this 25) fun r3 => (nn r3 fun a3 => (tg g a3 20 (ix (gL g a3) (pX13_unitOf x1) (lt (sI h a3 (Int32.toNatClampNeg (pX13_unitOf x1)) (p2 + 1)) fun h6 => (if (pX13_isCompared x1) = 0 then pX13_settles_b41 g this p1 p2  x1 h6 else lt (sI h6 this 29 (p2 + 3)) fun h8 => (bd (pX13_lasts g h8 this (hI h8 this 29)) fun h9 => (pX13_settles_b41 g this p1 p2  x1 h9)))))))))
set_option maxRecDepth 10000 in
set_option maxHeartbeats 4000000 in
theorem pX13_settles_ok (G : Gx) (dk : Nat) (hK : 3 ≤ dk) {g : MT} {h h0 : CT} {this : Nat} {p1 : Int32} {p2 : Int32} (hf : pX13_settles g h this p1 p2 = some h0) : Ctr G dk yX13_settles cX13_settles 5 none [va_rf (some this), .int p1, .int p2] g h none g h0 := by
  refine Ctr.ofZ (lv := [(0, va_rf (some this)), (1, .int p1), (2, .int p2)]) (by decide +kernel) (by simp [cat_i, cat_l, cat_d, cat_rf]) rfl fun X Z => ?_
  unfold pX13_settles at hf
  obtain ⟨t0, hf⟩ := tg_i hf
  refine J_aload_n Z.1 0 dX13_settles_0 rfl rfl ?_
  refine J_iload_n Z.1 1 dX13_settles_1 rfl rfl ?_
  refine J_iconst Z.1 (v := 0) (by decide) dX13_settles_2 ?_
  obtain ⟨x1, q2, hf⟩ := bd_i hf
  refine J_callV (ci := 11) (as := [.int p1, .int 0]) (rest := []) (sy := [.int x1]) Z.1 dX13_settles_3 cw_X13_381 (pX13_at_ok G (dk - 1) (by omega) q2) rfl rfl t0 (zG Z) rfl (by decide) (zF Z (by omega)) (zO Z (by omega) (by decide)) (zM g) Z.2.1 Z.2.1 rfl rfl ?_
  refine J_istore_n Z.1 (lv2 := [(3, .int x1), (0, va_rf (some this)), (1, .int p1), (2, .int p2)]) dX13_settles_6 rfl (zL Z (by decide)) rfl ?_
  refine J_aload_n Z.1 1 dX13_settles_7 rfl rfl ?_
  refine J_get (v := va_rf (hR h this 25)) Z.1 dX13_settles_8 fl_X13_44 t0 rfl ?_
  refine J_tr (fun r3 er3 => ?_)
  replace hf := lt_i hf r3 er3
  refine J_iload_n Z.1 0 dX13_settles_11 rfl rfl ?_
  refine J_callS (as := [.int x1]) (rest := [va_rf r3]) (sy := [.int (pX13_unitOf x1), va_rf r3]) Z.1 dX13_settles_12 cw_X13_395 (pX13_unitOf_ok G (dk - 1) (by omega) g h x1) (zG Z) rfl (by simp [cat_i, cat_l, cat_d, cat_rf]) (zF Z (by omega)) (zO Z (by omega) (by decide)) (zM g) Z.2.1 Z.2.1 rfl rfl ?_
  refine J_iload_n Z.1 3 dX13_settles_15 rfl rfl ?_
  refine J_iconst Z.1 (v := 1) (by decide) dX13_settles_16 ?_
  refine J_iadd Z.1 dX13_settles_17 ?_
  obtain ⟨a3, rfl, hf⟩ := nn_i hf
  obtain ⟨t4, hf⟩ := tg_i hf
  obtain ⟨i5, hf⟩ := ix_i hf
  refine J_iastore Z.1 dX13_settles_18 t4 i5 ?_
  refine J_th (fun h6 eh6 => ?_)
  replace hf := lt_i hf h6 eh6
  refine J_iload_n Z.1 0 dX13_settles_19 rfl rfl ?_
  refine J_callS (as := [.int x1]) (rest := []) (sy := [.int (pX13_isCompared x1)]) Z.1 dX13_settles_20 cw_X13_354 (pX13_isCompared_ok G (dk - 1) (by omega) g h6 x1) (zG Z) rfl (by decide) (zF Z (by omega)) (zO Z (by omega) (by decide)) (zM g) Z.2.1 Z.2.1 rfl rfl ?_
  refine J_if_eq Z.1 41 dX13_settles_23 (by decide) (fun c7 => ?_) (fun c7 => ?_)
  · rw [if_pos c7] at hf
    refine J_lv [1, 2, 3, 0] rfl ?_
    exact pX13_settles_b41_ok Z hK t0  _ _ hf
  · rw [if_neg c7] at hf
    refine J_aload_n Z.1 1 dX13_settles_26 rfl rfl ?_
    refine J_iload_n Z.1 3 dX13_settles_27 rfl rfl ?_
    refine J_iconst Z.1 (v := 3) (by decide) dX13_settles_28 ?_
    refine J_iadd Z.1 dX13_settles_29 ?_
    refine J_putI Z.1 dX13_settles_30 fl_X13_404 (fun q => by cases q) t0 rfl rfl (congrArg Value.int (hI_s _ _ _ _)) ?_
    refine J_th (fun h8 eh8 => ?_)
    replace hf := lt_i hf h8 eh8
    refine J_aload_n Z.1 1 dX13_settles_33 rfl rfl ?_
    refine J_aload_n Z.1 1 dX13_settles_34 rfl rfl ?_
    refine J_get (v := .int (hI h8 this 29)) Z.1 dX13_settles_35 fl_X13_404 t0 rfl ?_
    obtain ⟨h9, q10, hf⟩ := bd_i hf
    refine J_callV (ci := 11) (as := [.int (hI h8 this 29)]) (rest := []) (sy := []) Z.1 dX13_settles_38 cw_X13_478 (pX13_lasts_ok G (dk - 1) (by omega) q10) rfl rfl t0 (zG Z) rfl (by decide) (zF Z (by omega)) (zO Z (by omega) (by decide)) (zM g) Z.2.1 Z.2.1 rfl rfl ?_
    refine J_lv [1, 2, 3, 0] rfl ?_
    exact pX13_settles_b41_ok Z hK t0  _ _ hf
theorem dX13_bits_0 : decode cX13_bits 0 = .ok (.iconst 0, 1) := by decide +kernel
theorem dX13_bits_1 : decode cX13_bits 1 = .ok (.istore_n 1, 1) := by decide +kernel
theorem dX13_bits_2 : decode cX13_bits 2 = .ok (.iconst 0, 1) := by decide +kernel
theorem dX13_bits_3 : decode cX13_bits 3 = .ok (.istore_n 2, 1) := by decide +kernel
theorem dX13_bits_4 : decode cX13_bits 4 = .ok (.iload_n 2, 1) := by decide +kernel
theorem dX13_bits_5 : decode cX13_bits 5 = .ok (.aload_n 0, 1) := by decide +kernel
theorem dX13_bits_6 : decode cX13_bits 6 = .ok (.getfield 31, 3) := by decide +kernel
theorem dX13_bits_9 : decode cX13_bits 9 = .ok (.iconst 0, 1) := by decide +kernel
theorem dX13_bits_10 : decode cX13_bits 10 = .ok (.iaload, 1) := by decide +kernel
theorem dX13_bits_11 : decode cX13_bits 11 = .ok (.if_icmp .ge 22, 3) := by decide +kernel
theorem dX13_bits_14 : decode cX13_bits 14 = .ok (.iload_n 1, 1) := by decide +kernel
theorem dX13_bits_15 : decode cX13_bits 15 = .ok (.aload_n 0, 1) := by decide +kernel
theorem dX13_bits_16 : decode cX13_bits 16 = .ok (.getfield 31, 3) := by decide +kernel
theorem dX13_bits_19 : decode cX13_bits 19 = .ok (.iconst 3, 1) := by decide +kernel
theorem dX13_bits_20 : decode cX13_bits 20 = .ok (.iaload, 1) := by decide +kernel
theorem dX13_bits_21 : decode cX13_bits 21 = .ok (.iload_n 2, 1) := by decide +kernel
theorem dX13_bits_22 : decode cX13_bits 22 = .ok (.ishr, 1) := by decide +kernel
theorem dX13_bits_23 : decode cX13_bits 23 = .ok (.iconst 1, 1) := by decide +kernel
theorem dX13_bits_24 : decode cX13_bits 24 = .ok (.iand, 1) := by decide +kernel
theorem dX13_bits_25 : decode cX13_bits 25 = .ok (.iadd, 1) := by decide +kernel
theorem dX13_bits_26 : decode cX13_bits 26 = .ok (.istore_n 1, 1) := by decide +kernel
theorem dX13_bits_27 : decode cX13_bits 27 = .ok (.iinc 2 1, 3) := by decide +kernel
theorem dX13_bits_30 : decode cX13_bits 30 = .ok (.goto (-26), 3) := by decide +kernel
theorem dX13_bits_33 : decode cX13_bits 33 = .ok (.iload_n 1, 1) := by decide +kernel
theorem dX13_bits_34 : decode cX13_bits 34 = .ok (.ireturn, 1) := by decide +kernel
def pX13_bits_b4 (g : MT) (h : CT) (this : Nat) (k4 : Int32 → Int32 → Option Int32) (l1 : Int32) (l2 : Int32) : Option Int32 := lt (hR h this 19) fun r1 => (nn r1 fun a1 => (tg g a1 20 (ix (gL g a1) 0 (if (hI h a1 (Int32.toNatClampNeg 0)) ≤ l2 then some l1 else lt (hR h this 19) fun r5 => (nn r5 fun a5 => (tg g a5 20 (ix (gL g a5) 3 (lt (l1 + (((hI h a5 (Int32.toNatClampNeg 3)) >>> (l2 &&& 31)) &&& 1)) fun x8 => (lt (l2 + 1) fun x9 => (k4 x8 x9))))))))))
set_option maxRecDepth 10000 in
set_option maxHeartbeats 4000000 in
theorem pX13_bits_b4_ok {X : Cx} {G : Gx} {dk : Nat} {g : MT} {r0 : Int32} {h : CT} {this : Nat} {k4 : Int32 → Int32 → Option Int32} (Z : Zx X G cX13_bits RX13 3 dk (some .int) (some (.int r0)) g h) (hK : 0 ≤ dk) (t0 : gT g this = 12) (hk4 : ∀ (l1 : Int32) (l2 : Int32), k4 l1 l2 = some r0 → J X g h 4 [(0, va_rf (some this)), (1, .int l1), (2, .int l2)] []) (l1 : Int32) (l2 : Int32) (hf : pX13_bits_b4 g h this k4 l1 l2 = some r0) : J X g h 4 [(0, va_rf (some this)), (1, .int l1), (2, .int l2)] [] := by
  unfold pX13_bits_b4 at hf
  refine J_iload_n Z.1 2 dX13_bits_4 rfl rfl ?_
  refine J_aload_n Z.1 0 dX13_bits_5 rfl rfl ?_
  refine J_get (v := va_rf (hR h this 19)) Z.1 dX13_bits_6 fl_X13_31 t0 rfl ?_
  refine J_tr (fun r1 er1 => ?_)
  replace hf := lt_i hf r1 er1
  refine J_iconst Z.1 (v := 0) (by decide) dX13_bits_9 ?_
  obtain ⟨a1, rfl, hf⟩ := nn_i hf
  obtain ⟨t2, hf⟩ := tg_i hf
  obtain ⟨i3, hf⟩ := ix_i hf
  refine J_iaload Z.1 dX13_bits_10 t2 i3 ?_
  refine J_icmp_ge Z.1 33 dX13_bits_11 (by decide) (fun c4 => ?_) (fun c4 => ?_)
  · rw [if_pos c4] at hf
    refine J_iload_n Z.1 1 dX13_bits_33 rfl rfl ?_
    cases hf
    exact J_iret Z.1 Z.2.2.2.2.2 dX13_bits_34
  · rw [if_neg c4] at hf
    refine J_iload_n Z.1 1 dX13_bits_14 rfl rfl ?_
    refine J_aload_n Z.1 0 dX13_bits_15 rfl rfl ?_
    refine J_get (v := va_rf (hR h this 19)) Z.1 dX13_bits_16 fl_X13_31 t0 rfl ?_
    refine J_tr (fun r5 er5 => ?_)
    replace hf := lt_i hf r5 er5
    refine J_iconst Z.1 (v := 3) (by decide) dX13_bits_19 ?_
    obtain ⟨a5, rfl, hf⟩ := nn_i hf
    obtain ⟨t6, hf⟩ := tg_i hf
    obtain ⟨i7, hf⟩ := ix_i hf
    refine J_iaload Z.1 dX13_bits_20 t6 i7 ?_
    refine J_iload_n Z.1 2 dX13_bits_21 rfl rfl ?_
    refine J_ishr Z.1 dX13_bits_22 ?_
    refine J_iconst Z.1 (v := 1) (by decide) dX13_bits_23 ?_
    refine J_iand Z.1 dX13_bits_24 ?_
    refine J_iadd Z.1 dX13_bits_25 ?_
    refine J_ti (fun x8 ex8 => ?_)
    replace hf := lt_i hf x8 ex8
    refine J_istore_n Z.1 (lv2 := [(1, .int x8), (0, va_rf (some this)), (2, .int l2)]) dX13_bits_26 rfl (zL Z (by decide)) rfl ?_
    refine J_iinc Z.1 (v := 1) (lv2 := [(2, .int (l2 + 1)), (1, .int x8), (0, va_rf (some this))]) 2 dX13_bits_27 rfl (by decide) (zL Z (by decide)) rfl ?_
    obtain ⟨x9, ex9⟩ : ∃ z, z = (l2 + 1) := ⟨_, rfl⟩
    replace hf := lt_i hf x9 ex9
    rw [← ex9]
    refine J_goto Z.1 4 dX13_bits_30 (by decide) ?_
    refine J_lv [2, 1, 0] rfl ?_
    exact hk4 _ _ hf
def pX13_bits_l4 (g : MT) (h : CT) (this : Nat) : Nat → Int32 → Int32 → Option Int32
  | 0, _, _ => none
  | n + 1, l1, l2 => pX13_bits_b4 g h this (pX13_bits_l4 g h this n) l1 l2
theorem pX13_bits_l4_ok {X : Cx} {G : Gx} {dk : Nat} {g : MT} {r0 : Int32} {h : CT} {this : Nat} (Z : Zx X G cX13_bits RX13 3 dk (some .int) (some (.int r0)) g h) (hK : 0 ≤ dk) (t0 : gT g this = 12) : ∀ (n : Nat) (l1 : Int32) (l2 : Int32), pX13_bits_l4 g h this n l1 l2 = some r0 → J X g h 4 [(0, va_rf (some this)), (1, .int l1), (2, .int l2)] [] := by
  intro n
  induction n with
  | zero => intro l1 l2 hf; cases hf
  | succ n ih => intro l1 l2 hf; exact pX13_bits_b4_ok Z hK t0 ih l1 l2 hf
def pX13_bits (g : MT) (h : CT) (this : Nat) : Option Int32 := tg g this 12 (pX13_bits_l4 g h this  FUEL 0 0)
set_option maxRecDepth 10000 in
set_option maxHeartbeats 4000000 in
theorem pX13_bits_ok (G : Gx) (dk : Nat) (hK : 0 ≤ dk) {g : MT} {h : CT} {this : Nat} {r0 : Int32} (hf : pX13_bits g h this = some r0) : Ctr G dk yX13_bits cX13_bits 3 (some .int) [va_rf (some this)] g h (some (.int r0)) g h := by
  refine Ctr.ofZ (lv := [(0, va_rf (some this))]) (by decide +kernel) (by simp [cat_i, cat_l, cat_d, cat_rf]) rfl fun X Z => ?_
  unfold pX13_bits at hf
  obtain ⟨t0, hf⟩ := tg_i hf
  refine J_iconst Z.1 (v := 0) (by decide) dX13_bits_0 ?_
  refine J_istore_n Z.1 (lv2 := [(1, .int 0), (0, va_rf (some this))]) dX13_bits_1 rfl (zL Z (by decide)) rfl ?_
  refine J_iconst Z.1 (v := 0) (by decide) dX13_bits_2 ?_
  refine J_istore_n Z.1 (lv2 := [(2, .int 0), (1, .int 0), (0, va_rf (some this))]) dX13_bits_3 rfl (zL Z (by decide)) rfl ?_
  refine J_lv [2, 1, 0] rfl ?_
  exact pX13_bits_l4_ok Z hK t0  FUEL _ _ hf
theorem dX13_ends_0 : decode cX13_ends 0 = .ok (.aload_n 0, 1) := by decide +kernel
theorem dX13_ends_1 : decode cX13_ends 1 = .ok (.iload_n 2, 1) := by decide +kernel
theorem dX13_ends_2 : decode cX13_ends 2 = .ok (.putfield 401, 3) := by decide +kernel
theorem dX13_ends_5 : decode cX13_ends 5 = .ok (.aload_n 0, 1) := by decide +kernel
theorem dX13_ends_6 : decode cX13_ends 6 = .ok (.getfield 53, 3) := by decide +kernel
theorem dX13_ends_9 : decode cX13_ends 9 = .ok (.iload_n 1, 1) := by decide +kernel
theorem dX13_ends_10 : decode cX13_ends 10 = .ok (.iload_n 2, 1) := by decide +kernel
theorem dX13_ends_11 : decode cX13_ends 11 = .ok (.iastore, 1) := by decide +kernel
theorem dX13_ends_12 : decode cX13_ends 12 = .ok (.aload_n 0, 1) := by decide +kernel
theorem dX13_ends_13 : decode cX13_ends 13 = .ok (.iload_n 2, 1) := by decide +kernel
theorem dX13_ends_14 : decode cX13_ends 14 = .ok (.invokevirtual 478, 3) := by decide +kernel
theorem dX13_ends_17 : decode cX13_ends 17 = .ok (.return_, 1) := by decide +kernel
def pX13_ends (g : MT) (h : CT) (this : Nat) (p1 : Int32) (p2 : Int32) : Option CT := tg g this 12 (lt (sI h this 31 p2) fun h1 => (lt (hR h1 this 28) fun r2 => (nn r2 fun a2 => (tg g a2 20 (ix (gL g a2) p1 (lt (sI h1 a2 (Int32.toNatClampNeg p1) p2) fun h5 => (bd (pX13_lasts g h5 this p2) fun h6 => (some h6))))))))
set_option maxRecDepth 10000 in
set_option maxHeartbeats 4000000 in
theorem pX13_ends_ok (G : Gx) (dk : Nat) (hK : 2 ≤ dk) {g : MT} {h h0 : CT} {this : Nat} {p1 : Int32} {p2 : Int32} (hf : pX13_ends g h this p1 p2 = some h0) : Ctr G dk yX13_ends cX13_ends 3 none [va_rf (some this), .int p1, .int p2] g h none g h0 := by
  refine Ctr.ofZ (lv := [(0, va_rf (some this)), (1, .int p1), (2, .int p2)]) (by decide +kernel) (by simp [cat_i, cat_l, cat_d, cat_rf]) rfl fun X Z => ?_
  unfold pX13_ends at hf
  obtain ⟨t0, hf⟩ := tg_i hf
  refine J_aload_n Z.1 0 dX13_ends_0 rfl rfl ?_
  refine J_iload_n Z.1 2 dX13_ends_1 rfl rfl ?_
  refine J_putI Z.1 dX13_ends_2 fl_X13_401 (fun q => by cases q) t0 rfl rfl (congrArg Value.int (hI_s _ _ _ _)) ?_
  refine J_th (fun h1 eh1 => ?_)
  replace hf := lt_i hf h1 eh1
  refine J_aload_n Z.1 0 dX13_ends_5 rfl rfl ?_
  refine J_get (v := va_rf (hR h1 this 28)) Z.1 dX13_ends_6 fl_X13_53 t0 rfl ?_
  refine J_tr (fun r2 er2 => ?_)
  replace hf := lt_i hf r2 er2
  refine J_iload_n Z.1 1 dX13_ends_9 rfl rfl ?_
  refine J_iload_n Z.1 2 dX13_ends_10 rfl rfl ?_
  obtain ⟨a2, rfl, hf⟩ := nn_i hf
  obtain ⟨t3, hf⟩ := tg_i hf
  obtain ⟨i4, hf⟩ := ix_i hf
  refine J_iastore Z.1 dX13_ends_11 t3 i4 ?_
  refine J_th (fun h5 eh5 => ?_)
  replace hf := lt_i hf h5 eh5
  refine J_aload_n Z.1 0 dX13_ends_12 rfl rfl ?_
  refine J_iload_n Z.1 2 dX13_ends_13 rfl rfl ?_
  obtain ⟨h6, q7, hf⟩ := bd_i hf
  refine J_callV (ci := 11) (as := [.int p2]) (rest := []) (sy := []) Z.1 dX13_ends_14 cw_X13_478 (pX13_lasts_ok G (dk - 1) (by omega) q7) rfl rfl t0 (zG Z) rfl (by decide) (zF Z (by omega)) (zO Z (by omega) (by decide)) (zM g) Z.2.1 Z.2.1 rfl rfl ?_
  cases hf
  exact J_vret Z.1 Z.2.2.2.2.2 dX13_ends_17
theorem dX13_counts_0 : decode cX13_counts 0 = .ok (.aload_n 0, 1) := by decide +kernel
theorem dX13_counts_1 : decode cX13_counts 1 = .ok (.getfield 34, 3) := by decide +kernel
theorem dX13_counts_4 : decode cX13_counts 4 = .ok (.bipush 96, 2) := by decide +kernel
theorem dX13_counts_6 : decode cX13_counts 6 = .ok (.aload_n 0, 1) := by decide +kernel
theorem dX13_counts_7 : decode cX13_counts 7 = .ok (.iload_n 1, 1) := by decide +kernel
theorem dX13_counts_8 : decode cX13_counts 8 = .ok (.iconst 5, 1) := by decide +kernel
theorem dX13_counts_9 : decode cX13_counts 9 = .ok (.invokevirtual 381, 3) := by decide +kernel
theorem dX13_counts_12 : decode cX13_counts 12 = .ok (.iadd, 1) := by decide +kernel
theorem dX13_counts_13 : decode cX13_counts 13 = .ok (.aload_n 0, 1) := by decide +kernel
theorem dX13_counts_14 : decode cX13_counts 14 = .ok (.invokevirtual 497, 3) := by decide +kernel
theorem dX13_counts_17 : decode cX13_counts 17 = .ok (.i2d, 1) := by decide +kernel
theorem dX13_counts_18 : decode cX13_counts 18 = .ok (.dastore, 1) := by decide +kernel
theorem dX13_counts_19 : decode cX13_counts 19 = .ok (.aload_n 0, 1) := by decide +kernel
theorem dX13_counts_20 : decode cX13_counts 20 = .ok (.aload_n 0, 1) := by decide +kernel
theorem dX13_counts_21 : decode cX13_counts 21 = .ok (.getfield 407, 3) := by decide +kernel
theorem dX13_counts_24 : decode cX13_counts 24 = .ok (.iload_n 2, 1) := by decide +kernel
theorem dX13_counts_25 : decode cX13_counts 25 = .ok (.invokestatic 178, 3) := by decide +kernel
theorem dX13_counts_28 : decode cX13_counts 28 = .ok (.putfield 407, 3) := by decide +kernel
theorem dX13_counts_31 : decode cX13_counts 31 = .ok (.aload_n 0, 1) := by decide +kernel
theorem dX13_counts_32 : decode cX13_counts 32 = .ok (.iload_n 1, 1) := by decide +kernel
theorem dX13_counts_33 : decode cX13_counts 33 = .ok (.iload_n 2, 1) := by decide +kernel
theorem dX13_counts_34 : decode cX13_counts 34 = .ok (.iconst 1, 1) := by decide +kernel
theorem dX13_counts_35 : decode cX13_counts 35 = .ok (.iadd, 1) := by decide +kernel
theorem dX13_counts_36 : decode cX13_counts 36 = .ok (.invokevirtual 494, 3) := by decide +kernel
theorem dX13_counts_39 : decode cX13_counts 39 = .ok (.return_, 1) := by decide +kernel
def pX13_counts (g : MT) (h : CT) (this : Nat) (p1 : Int32) (p2 : Int32) : Option CT := tg g this 12 (lt (hR h this 20) fun r1 => (bd (pX13_at g h this p1 5) fun x2 => (bd (pX13_bits g h this) fun x4 => (nn r1 fun a1 => (tg g a1 22 (ix (gL g a1) (96 + x2) (lt (sD h a1 (Int32.toNatClampNeg (96 + x2)) (fi2d x4)) fun h8 => (lt (sI h8 this 30 (pJ9_max_7cf53 (hI h8 this 30) p2)) fun h9 => (bd (pX13_ends g h9 this p1 (p2 + 1)) fun h10 => (some h10))))))))))
set_option maxRecDepth 10000 in
set_option maxHeartbeats 4000000 in
theorem pX13_counts_ok (G : Gx) (dk : Nat) (hK : 3 ≤ dk) {g : MT} {h h0 : CT} {this : Nat} {p1 : Int32} {p2 : Int32} (hf : pX13_counts g h this p1 p2 = some h0) : Ctr G dk yX13_counts cX13_counts 3 none [va_rf (some this), .int p1, .int p2] g h none g h0 := by
  refine Ctr.ofZ (lv := [(0, va_rf (some this)), (1, .int p1), (2, .int p2)]) (by decide +kernel) (by simp [cat_i, cat_l, cat_d, cat_rf]) rfl fun X Z => ?_
  unfold pX13_counts at hf
  obtain ⟨t0, hf⟩ := tg_i hf
  refine J_aload_n Z.1 0 dX13_counts_0 rfl rfl ?_
  refine J_get (v := va_rf (hR h this 20)) Z.1 dX13_counts_1 fl_X13_34 t0 rfl ?_
  refine J_tr (fun r1 er1 => ?_)
  replace hf := lt_i hf r1 er1
  refine J_bipush Z.1 (v := 96) (by decide) dX13_counts_4 ?_
  refine J_aload_n Z.1 0 dX13_counts_6 rfl rfl ?_
  refine J_iload_n Z.1 1 dX13_counts_7 rfl rfl ?_
  refine J_iconst Z.1 (v := 5) (by decide) dX13_counts_8 ?_
  obtain ⟨x2, q3, hf⟩ := bd_i hf
  refine J_callV (ci := 11) (as := [.int p1, .int 5]) (rest := [.int 96, va_rf r1]) (sy := [.int x2, .int 96, va_rf r1]) Z.1 dX13_counts_9 cw_X13_381 (pX13_at_ok G (dk - 1) (by omega) q3) rfl rfl t0 (zG Z) rfl (by simp [cat_i, cat_l, cat_d, cat_rf]) (zF Z (by omega)) (zO Z (by omega) (by decide)) (zM g) Z.2.1 Z.2.1 rfl rfl ?_
  refine J_iadd Z.1 dX13_counts_12 ?_
  refine J_aload_n Z.1 0 dX13_counts_13 rfl rfl ?_
  obtain ⟨x4, q5, hf⟩ := bd_i hf
  refine J_callV (ci := 11) (as := []) (rest := [.int (96 + x2), va_rf r1]) (sy := [.int x4, .int (96 + x2), va_rf r1]) Z.1 dX13_counts_14 cw_X13_497 (pX13_bits_ok G (dk - 1) (by omega) q5) rfl rfl t0 (zG Z) rfl (by simp [cat_i, cat_l, cat_d, cat_rf]) (zF Z (by omega)) (zO Z (by omega) (by decide)) (zM g) Z.2.1 Z.2.1 rfl rfl ?_
  refine J_i2d Z.1 dX13_counts_17 ?_
  obtain ⟨a1, rfl, hf⟩ := nn_i hf
  obtain ⟨t6, hf⟩ := tg_i hf
  obtain ⟨i7, hf⟩ := ix_i hf
  refine J_dastore Z.1 dX13_counts_18 t6 i7 ?_
  refine J_th (fun h8 eh8 => ?_)
  replace hf := lt_i hf h8 eh8
  refine J_aload_n Z.1 0 dX13_counts_19 rfl rfl ?_
  refine J_aload_n Z.1 0 dX13_counts_20 rfl rfl ?_
  refine J_get (v := .int (hI h8 this 30)) Z.1 dX13_counts_21 fl_X13_407 t0 rfl ?_
  refine J_iload_n Z.1 2 dX13_counts_24 rfl rfl ?_
  refine J_callS (as := [.int (hI h8 this 30), .int p2]) (rest := [va_rf (some this)]) (sy := [.int (pJ9_max_7cf53 (hI h8 this 30) p2), va_rf (some this)]) Z.1 dX13_counts_25 cw_X13_178 (pJ9_max_7cf53_ok G (dk - 1) (by omega) g h8 (hI h8 this 30) p2) (zG Z) rfl (by simp [cat_i, cat_l, cat_d, cat_rf]) (zF Z (by omega)) (zO Z (by omega) (by decide)) (zM g) Z.2.1 Z.2.1 rfl rfl ?_
  refine J_putI Z.1 dX13_counts_28 fl_X13_407 (fun q => by cases q) t0 rfl rfl (congrArg Value.int (hI_s _ _ _ _)) ?_
  refine J_th (fun h9 eh9 => ?_)
  replace hf := lt_i hf h9 eh9
  refine J_aload_n Z.1 0 dX13_counts_31 rfl rfl ?_
  refine J_iload_n Z.1 1 dX13_counts_32 rfl rfl ?_
  refine J_iload_n Z.1 2 dX13_counts_33 rfl rfl ?_
  refine J_iconst Z.1 (v := 1) (by decide) dX13_counts_34 ?_
  refine J_iadd Z.1 dX13_counts_35 ?_
  obtain ⟨h10, q11, hf⟩ := bd_i hf
  refine J_callV (ci := 11) (as := [.int p1, .int (p2 + 1)]) (rest := []) (sy := []) Z.1 dX13_counts_36 cw_X13_494 (pX13_ends_ok G (dk - 1) (by omega) q11) rfl rfl t0 (zG Z) rfl (by decide) (zF Z (by omega)) (zO Z (by omega) (by decide)) (zM g) Z.2.1 Z.2.1 rfl rfl ?_
  cases hf
  exact J_vret Z.1 Z.2.2.2.2.2 dX13_counts_39
theorem dX13_flips_0 : decode cX13_flips 0 = .ok (.aload_n 0, 1) := by decide +kernel
theorem dX13_flips_1 : decode cX13_flips 1 = .ok (.getfield 31, 3) := by decide +kernel
theorem dX13_flips_4 : decode cX13_flips 4 = .ok (.iconst 3, 1) := by decide +kernel
theorem dX13_flips_5 : decode cX13_flips 5 = .ok (.dup2, 1) := by decide +kernel
theorem dX13_flips_6 : decode cX13_flips 6 = .ok (.iaload, 1) := by decide +kernel
theorem dX13_flips_7 : decode cX13_flips 7 = .ok (.iconst 1, 1) := by decide +kernel
theorem dX13_flips_8 : decode cX13_flips 8 = .ok (.aload_n 0, 1) := by decide +kernel
theorem dX13_flips_9 : decode cX13_flips 9 = .ok (.getfield 31, 3) := by decide +kernel
theorem dX13_flips_12 : decode cX13_flips 12 = .ok (.iconst 0, 1) := by decide +kernel
theorem dX13_flips_13 : decode cX13_flips 13 = .ok (.iaload, 1) := by decide +kernel
theorem dX13_flips_14 : decode cX13_flips 14 = .ok (.ishl, 1) := by decide +kernel
theorem dX13_flips_15 : decode cX13_flips 15 = .ok (.iconst 1, 1) := by decide +kernel
theorem dX13_flips_16 : decode cX13_flips 16 = .ok (.isub, 1) := by decide +kernel
theorem dX13_flips_17 : decode cX13_flips 17 = .ok (.ixor, 1) := by decide +kernel
theorem dX13_flips_18 : decode cX13_flips 18 = .ok (.iastore, 1) := by decide +kernel
theorem dX13_flips_19 : decode cX13_flips 19 = .ok (.aload_n 0, 1) := by decide +kernel
theorem dX13_flips_20 : decode cX13_flips 20 = .ok (.aload_n 0, 1) := by decide +kernel
theorem dX13_flips_21 : decode cX13_flips 21 = .ok (.getfield 407, 3) := by decide +kernel
theorem dX13_flips_24 : decode cX13_flips 24 = .ok (.iload_n 1, 1) := by decide +kernel
theorem dX13_flips_25 : decode cX13_flips 25 = .ok (.invokestatic 178, 3) := by decide +kernel
theorem dX13_flips_28 : decode cX13_flips 28 = .ok (.putfield 407, 3) := by decide +kernel
theorem dX13_flips_31 : decode cX13_flips 31 = .ok (.aload_n 0, 1) := by decide +kernel
theorem dX13_flips_32 : decode cX13_flips 32 = .ok (.iload_n 1, 1) := by decide +kernel
theorem dX13_flips_33 : decode cX13_flips 33 = .ok (.iconst 1, 1) := by decide +kernel
theorem dX13_flips_34 : decode cX13_flips 34 = .ok (.iadd, 1) := by decide +kernel
theorem dX13_flips_35 : decode cX13_flips 35 = .ok (.putfield 404, 3) := by decide +kernel
theorem dX13_flips_38 : decode cX13_flips 38 = .ok (.aload_n 0, 1) := by decide +kernel
theorem dX13_flips_39 : decode cX13_flips 39 = .ok (.aload_n 0, 1) := by decide +kernel
theorem dX13_flips_40 : decode cX13_flips 40 = .ok (.getfield 404, 3) := by decide +kernel
theorem dX13_flips_43 : decode cX13_flips 43 = .ok (.invokevirtual 478, 3) := by decide +kernel
theorem dX13_flips_46 : decode cX13_flips 46 = .ok (.return_, 1) := by decide +kernel
def pX13_flips (g : MT) (h : CT) (this : Nat) (p1 : Int32) : Option CT := tg g this 12 (lt (hR h this 19) fun r1 => (nn r1 fun a1 => (tg g a1 20 (ix (gL g a1) 3 (lt (hR h this 19) fun r4 => (nn r4 fun a4 => (tg g a4 20 (ix (gL g a4) 0 (ix (gL g a1) 3 (lt (sI h a1 (Int32.toNatClampNeg 3) ((hI h a1 (Int32.toNatClampNeg 3)) ^^^ (((1 : Int32) <<< ((hI h a4 (Int32.toNatClampNeg 0)) &&& 31)) - 1))) fun h8 => (lt (sI h8 this 30 (pJ9_max_7cf53 (hI h8 this 30) p1)) fun h9 => (lt (sI h9 this 29 (p1 + 1)) fun h10 => (bd (pX13_lasts g h10 this (hI h10 this 29)) fun h11 => (some h11))))))))))))))
set_option maxRecDepth 10000 in
set_option maxHeartbeats 4000000 in
theorem pX13_flips_ok (G : Gx) (dk : Nat) (hK : 2 ≤ dk) {g : MT} {h h0 : CT} {this : Nat} {p1 : Int32} (hf : pX13_flips g h this p1 = some h0) : Ctr G dk yX13_flips cX13_flips 2 none [va_rf (some this), .int p1] g h none g h0 := by
  refine Ctr.ofZ (lv := [(0, va_rf (some this)), (1, .int p1)]) (by decide +kernel) (by simp [cat_i, cat_l, cat_d, cat_rf]) rfl fun X Z => ?_
  unfold pX13_flips at hf
  obtain ⟨t0, hf⟩ := tg_i hf
  refine J_aload_n Z.1 0 dX13_flips_0 rfl rfl ?_
  refine J_get (v := va_rf (hR h this 19)) Z.1 dX13_flips_1 fl_X13_31 t0 rfl ?_
  refine J_tr (fun r1 er1 => ?_)
  replace hf := lt_i hf r1 er1
  refine J_iconst Z.1 (v := 3) (by decide) dX13_flips_4 ?_
  refine J_dup2 Z.1 dX13_flips_5 (by simp [cat_i, cat_l, cat_d, cat_rf]) (by simp [cat_i, cat_l, cat_d, cat_rf]) ?_
  obtain ⟨a1, rfl, hf⟩ := nn_i hf
  obtain ⟨t2, hf⟩ := tg_i hf
  obtain ⟨i3, hf⟩ := ix_i hf
  refine J_iaload Z.1 dX13_flips_6 t2 i3 ?_
  refine J_iconst Z.1 (v := 1) (by decide) dX13_flips_7 ?_
  refine J_aload_n Z.1 0 dX13_flips_8 rfl rfl ?_
  refine J_get (v := va_rf (hR h this 19)) Z.1 dX13_flips_9 fl_X13_31 t0 rfl ?_
  refine J_tr (fun r4 er4 => ?_)
  replace hf := lt_i hf r4 er4
  refine J_iconst Z.1 (v := 0) (by decide) dX13_flips_12 ?_
  obtain ⟨a4, rfl, hf⟩ := nn_i hf
  obtain ⟨t5, hf⟩ := tg_i hf
  obtain ⟨i6, hf⟩ := ix_i hf
  refine J_iaload Z.1 dX13_flips_13 t5 i6 ?_
  refine J_ishl Z.1 dX13_flips_14 ?_
  refine J_iconst Z.1 (v := 1) (by decide) dX13_flips_15 ?_
  refine J_isub Z.1 dX13_flips_16 ?_
  refine J_ixor Z.1 dX13_flips_17 ?_
  obtain ⟨i7, hf⟩ := ix_i hf
  refine J_iastore Z.1 dX13_flips_18 t2 i7 ?_
  refine J_th (fun h8 eh8 => ?_)
  replace hf := lt_i hf h8 eh8
  refine J_aload_n Z.1 0 dX13_flips_19 rfl rfl ?_
  refine J_aload_n Z.1 0 dX13_flips_20 rfl rfl ?_
  refine J_get (v := .int (hI h8 this 30)) Z.1 dX13_flips_21 fl_X13_407 t0 rfl ?_
  refine J_iload_n Z.1 1 dX13_flips_24 rfl rfl ?_
  refine J_callS (as := [.int (hI h8 this 30), .int p1]) (rest := [va_rf (some this)]) (sy := [.int (pJ9_max_7cf53 (hI h8 this 30) p1), va_rf (some this)]) Z.1 dX13_flips_25 cw_X13_178 (pJ9_max_7cf53_ok G (dk - 1) (by omega) g h8 (hI h8 this 30) p1) (zG Z) rfl (by simp [cat_i, cat_l, cat_d, cat_rf]) (zF Z (by omega)) (zO Z (by omega) (by decide)) (zM g) Z.2.1 Z.2.1 rfl rfl ?_
  refine J_putI Z.1 dX13_flips_28 fl_X13_407 (fun q => by cases q) t0 rfl rfl (congrArg Value.int (hI_s _ _ _ _)) ?_
  refine J_th (fun h9 eh9 => ?_)
  replace hf := lt_i hf h9 eh9
  refine J_aload_n Z.1 0 dX13_flips_31 rfl rfl ?_
  refine J_iload_n Z.1 1 dX13_flips_32 rfl rfl ?_
  refine J_iconst Z.1 (v := 1) (by decide) dX13_flips_33 ?_
  refine J_iadd Z.1 dX13_flips_34 ?_
  refine J_putI Z.1 dX13_flips_35 fl_X13_404 (fun q => by cases q) t0 rfl rfl (congrArg Value.int (hI_s _ _ _ _)) ?_
  refine J_th (fun h10 eh10 => ?_)
  replace hf := lt_i hf h10 eh10
  refine J_aload_n Z.1 0 dX13_flips_38 rfl rfl ?_
  refine J_aload_n Z.1 0 dX13_flips_39 rfl rfl ?_
  refine J_get (v := .int (hI h10 this 29)) Z.1 dX13_flips_40 fl_X13_404 t0 rfl ?_
  obtain ⟨h11, q12, hf⟩ := bd_i hf
  refine J_callV (ci := 11) (as := [.int (hI h10 this 29)]) (rest := []) (sy := []) Z.1 dX13_flips_43 cw_X13_478 (pX13_lasts_ok G (dk - 1) (by omega) q12) rfl rfl t0 (zG Z) rfl (by decide) (zF Z (by omega)) (zO Z (by omega) (by decide)) (zM g) Z.2.1 Z.2.1 rfl rfl ?_
  cases hf
  exact J_vret Z.1 Z.2.2.2.2.2 dX13_flips_46
theorem dX13_begins_0 : decode cX13_begins 0 = .ok (.aload_n 0, 1) := by decide +kernel
theorem dX13_begins_1 : decode cX13_begins 1 = .ok (.iload_n 1, 1) := by decide +kernel
theorem dX13_begins_2 : decode cX13_begins 2 = .ok (.putfield 398, 3) := by decide +kernel
theorem dX13_begins_5 : decode cX13_begins 5 = .ok (.aload_n 0, 1) := by decide +kernel
theorem dX13_begins_6 : decode cX13_begins 6 = .ok (.iload_n 1, 1) := by decide +kernel
theorem dX13_begins_7 : decode cX13_begins 7 = .ok (.invokevirtual 478, 3) := by decide +kernel
theorem dX13_begins_10 : decode cX13_begins 10 = .ok (.return_, 1) := by decide +kernel
def pX13_begins (g : MT) (h : CT) (this : Nat) (p1 : Int32) : Option CT := tg g this 12 (lt (sI h this 32 p1) fun h1 => (bd (pX13_lasts g h1 this p1) fun h2 => (some h2)))
set_option maxRecDepth 10000 in
set_option maxHeartbeats 4000000 in
theorem pX13_begins_ok (G : Gx) (dk : Nat) (hK : 2 ≤ dk) {g : MT} {h h0 : CT} {this : Nat} {p1 : Int32} (hf : pX13_begins g h this p1 = some h0) : Ctr G dk yX13_begins cX13_begins 2 none [va_rf (some this), .int p1] g h none g h0 := by
  refine Ctr.ofZ (lv := [(0, va_rf (some this)), (1, .int p1)]) (by decide +kernel) (by simp [cat_i, cat_l, cat_d, cat_rf]) rfl fun X Z => ?_
  unfold pX13_begins at hf
  obtain ⟨t0, hf⟩ := tg_i hf
  refine J_aload_n Z.1 0 dX13_begins_0 rfl rfl ?_
  refine J_iload_n Z.1 1 dX13_begins_1 rfl rfl ?_
  refine J_putI Z.1 dX13_begins_2 fl_X13_398 (fun q => by cases q) t0 rfl rfl (congrArg Value.int (hI_s _ _ _ _)) ?_
  refine J_th (fun h1 eh1 => ?_)
  replace hf := lt_i hf h1 eh1
  refine J_aload_n Z.1 0 dX13_begins_5 rfl rfl ?_
  refine J_iload_n Z.1 1 dX13_begins_6 rfl rfl ?_
  obtain ⟨h2, q3, hf⟩ := bd_i hf
  refine J_callV (ci := 11) (as := [.int p1]) (rest := []) (sy := []) Z.1 dX13_begins_7 cw_X13_478 (pX13_lasts_ok G (dk - 1) (by omega) q3) rfl rfl t0 (zG Z) rfl (by decide) (zF Z (by omega)) (zO Z (by omega) (by decide)) (zM g) Z.2.1 Z.2.1 rfl rfl ?_
  cases hf
  exact J_vret Z.1 Z.2.2.2.2.2 dX13_begins_10
theorem dX13_answer_0 : decode cX13_answer 0 = .ok (.iload_n 1, 1) := by decide +kernel
theorem dX13_answer_1 : decode cX13_answer 1 = .ok (.ifCond .ge 12, 3) := by decide +kernel
theorem dX13_answer_4 : decode cX13_answer 4 = .ok (.aload_n 0, 1) := by decide +kernel
theorem dX13_answer_5 : decode cX13_answer 5 = .ok (.bipush 8, 2) := by decide +kernel
theorem dX13_answer_7 : decode cX13_answer 7 = .ok (.invokevirtual 268, 3) := by decide +kernel
theorem dX13_answer_10 : decode cX13_answer 10 = .ok (.goto 4, 3) := by decide +kernel
theorem dX13_answer_13 : decode cX13_answer 13 = .ok (.iload_n 1, 1) := by decide +kernel
theorem dX13_answer_14 : decode cX13_answer 14 = .ok (.ireturn, 1) := by decide +kernel
def pX13_answer (g : MT) (h : CT) (this : Nat) (p1 : Int32) : Option ((Int32) × CT) := tg g this 12 (if 0 ≤ p1 then some (p1, h) else bd2 (pX13_refuse g h this 8) fun x4 h2 => (some (x4, h2)))
set_option maxRecDepth 10000 in
set_option maxHeartbeats 4000000 in
theorem pX13_answer_ok (G : Gx) (dk : Nat) (hK : 1 ≤ dk) {g : MT} {h h0 : CT} {this : Nat} {p1 : Int32} {r0 : Int32} (hf : pX13_answer g h this p1 = some (r0, h0)) : Ctr G dk yX13_answer cX13_answer 2 (some .int) [va_rf (some this), .int p1] g h (some (.int r0)) g h0 := by
  refine Ctr.ofZ (lv := [(0, va_rf (some this)), (1, .int p1)]) (by decide +kernel) (by simp [cat_i, cat_l, cat_d, cat_rf]) rfl fun X Z => ?_
  unfold pX13_answer at hf
  obtain ⟨t0, hf⟩ := tg_i hf
  refine J_iload_n Z.1 1 dX13_answer_0 rfl rfl ?_
  refine J_if_ge Z.1 13 dX13_answer_1 (by decide) (fun c1 => ?_) (fun c1 => ?_)
  · rw [if_pos c1] at hf
    refine J_iload_n Z.1 1 dX13_answer_13 rfl rfl ?_
    cases hf
    exact J_iret Z.1 Z.2.2.2.2.2 dX13_answer_14
  · rw [if_neg c1] at hf
    refine J_aload_n Z.1 0 dX13_answer_4 rfl rfl ?_
    refine J_bipush Z.1 (v := 8) (by decide) dX13_answer_5 ?_
    obtain ⟨x4, h2, q3, hf⟩ := bd2_i hf
    refine J_callV (ci := 11) (as := [.int 8]) (rest := []) (sy := [.int x4]) Z.1 dX13_answer_7 cw_X13_268 (pX13_refuse_ok G (dk - 1) (by omega) q3) rfl rfl t0 (zG Z) rfl (by decide) (zF Z (by omega)) (zO Z (by omega) (by decide)) (zM g) Z.2.1 Z.2.1 rfl rfl ?_
    refine J_goto Z.1 14 dX13_answer_10 (by decide) ?_
    cases hf
    exact J_iret Z.1 Z.2.2.2.2.2 dX13_answer_14
theorem dX13_ran_0 : decode cX13_ran 0 = .ok (.aload_n 0, 1) := by decide +kernel
theorem dX13_ran_1 : decode cX13_ran 1 = .ok (.iconst 0, 1) := by decide +kernel
theorem dX13_ran_2 : decode cX13_ran 2 = .ok (.putfield 71, 3) := by decide +kernel
theorem dX13_ran_5 : decode cX13_ran 5 = .ok (.aload_n 0, 1) := by decide +kernel
theorem dX13_ran_6 : decode cX13_ran 6 = .ok (.iconst 0, 1) := by decide +kernel
theorem dX13_ran_7 : decode cX13_ran 7 = .ok (.putfield 74, 3) := by decide +kernel
theorem dX13_ran_10 : decode cX13_ran 10 = .ok (.iload_n 1, 1) := by decide +kernel
theorem dX13_ran_11 : decode cX13_ran 11 = .ok (.i2l, 1) := by decide +kernel
theorem dX13_ran_12 : decode cX13_ran 12 = .ok (.lconst 0, 1) := by decide +kernel
theorem dX13_ran_13 : decode cX13_ran 13 = .ok (.ldc2_w 275, 3) := by decide +kernel
theorem dX13_ran_16 : decode cX13_ran 16 = .ok (.invokestatic 104, 3) := by decide +kernel
theorem dX13_ran_19 : decode cX13_ran 19 = .ok (.ifCond .ne 9, 3) := by decide +kernel
theorem dX13_ran_22 : decode cX13_ran 22 = .ok (.aload_n 0, 1) := by decide +kernel
theorem dX13_ran_23 : decode cX13_ran 23 = .ok (.iconst 5, 1) := by decide +kernel
theorem dX13_ran_24 : decode cX13_ran 24 = .ok (.invokevirtual 268, 3) := by decide +kernel
theorem dX13_ran_27 : decode cX13_ran 27 = .ok (.ireturn, 1) := by decide +kernel
theorem dX13_ran_28 : decode cX13_ran 28 = .ok (.aload_n 0, 1) := by decide +kernel
theorem dX13_ran_29 : decode cX13_ran 29 = .ok (.getfield 538, 3) := by decide +kernel
theorem dX13_ran_32 : decode cX13_ran 32 = .ok (.ifCond .eq 16, 3) := by decide +kernel
theorem dX13_ran_35 : decode cX13_ran 35 = .ok (.aload_n 0, 1) := by decide +kernel
theorem dX13_ran_36 : decode cX13_ran 36 = .ok (.aload_n 0, 1) := by decide +kernel
theorem dX13_ran_37 : decode cX13_ran 37 = .ok (.getfield 59, 3) := by decide +kernel
theorem dX13_ran_40 : decode cX13_ran 40 = .ok (.iload_n 1, 1) := by decide +kernel
theorem dX13_ran_41 : decode cX13_ran 41 = .ok (.iaload, 1) := by decide +kernel
theorem dX13_ran_42 : decode cX13_ran 42 = .ok (.invokevirtual 541, 3) := by decide +kernel
theorem dX13_ran_45 : decode cX13_ran 45 = .ok (.goto 9, 3) := by decide +kernel
theorem dX13_ran_48 : decode cX13_ran 48 = .ok (.aload_n 0, 1) := by decide +kernel
theorem dX13_ran_49 : decode cX13_ran 49 = .ok (.bipush 8, 2) := by decide +kernel
theorem dX13_ran_51 : decode cX13_ran 51 = .ok (.invokevirtual 268, 3) := by decide +kernel
theorem dX13_ran_54 : decode cX13_ran 54 = .ok (.ireturn, 1) := by decide +kernel
def pX13_ran (g : MT) (h : CT) (this : Nat) (p1 : Int32) : Option ((Int32) × CT) := tg g this 12 (lt (sI h this 1 0) fun h1 => (lt (sI h1 this 0 0) fun h2 => (if (pX13_isIn (Int32.toInt64 p1) 0 5) = 0 then bd2 (pX13_refuse g h2 this 5) fun x16 h14 => (some (x16, h14)) else if (hI h2 this 41) = 0 then bd2 (pX13_refuse g h2 this 8) fun x7 h5 => (some (x7, h5)) else lt (hR h2 this 45) fun r8 => (nn r8 fun a8 => (tg g a8 20 (ix (gL g a8) p1 (bd2 (pX13_answer g h2 this (hI h2 a8 (Int32.toNatClampNeg p1))) fun x13 h11 => (some (x13, h11)))))))))
set_option maxRecDepth 10000 in
set_option maxHeartbeats 4000000 in
theorem pX13_ran_ok (G : Gx) (dk : Nat) (hK : 2 ≤ dk) {g : MT} {h h0 : CT} {this : Nat} {p1 : Int32} {r0 : Int32} (hf : pX13_ran g h this p1 = some (r0, h0)) : Ctr G dk yX13_ran cX13_ran 2 (some .int) [va_rf (some this), .int p1] g h (some (.int r0)) g h0 := by
  refine Ctr.ofZ (lv := [(0, va_rf (some this)), (1, .int p1)]) (by decide +kernel) (by simp [cat_i, cat_l, cat_d, cat_rf]) rfl fun X Z => ?_
  unfold pX13_ran at hf
  obtain ⟨t0, hf⟩ := tg_i hf
  refine J_aload_n Z.1 0 dX13_ran_0 rfl rfl ?_
  refine J_iconst Z.1 (v := 0) (by decide) dX13_ran_1 ?_
  refine J_putI Z.1 dX13_ran_2 fl_X13_71 (fun q => by cases q) t0 rfl rfl (congrArg Value.int (hI_s _ _ _ _)) ?_
  refine J_th (fun h1 eh1 => ?_)
  replace hf := lt_i hf h1 eh1
  refine J_aload_n Z.1 0 dX13_ran_5 rfl rfl ?_
  refine J_iconst Z.1 (v := 0) (by decide) dX13_ran_6 ?_
  refine J_putI Z.1 dX13_ran_7 fl_X13_74 (fun q => by cases q) t0 rfl rfl (congrArg Value.int (hI_s _ _ _ _)) ?_
  refine J_th (fun h2 eh2 => ?_)
  replace hf := lt_i hf h2 eh2
  refine J_iload_n Z.1 1 dX13_ran_10 rfl rfl ?_
  refine J_i2l Z.1 dX13_ran_11 ?_
  refine J_lconst Z.1 (v := 0) (by decide) dX13_ran_12 ?_
  refine J_ldc2 Z.1 q_1749 dX13_ran_13 ?_
  refine J_callS (as := [.long (Int32.toInt64 p1), .long 0, .long 5]) (rest := []) (sy := [.int (pX13_isIn (Int32.toInt64 p1) 0 5)]) Z.1 dX13_ran_16 cw_X13_104 (pX13_isIn_ok G (dk - 1) (by omega) g h2 (Int32.toInt64 p1) 0 5) (zG Z) rfl (by decide) (zF Z (by omega)) (zO Z (by omega) (by decide)) (zM g) Z.2.1 Z.2.1 rfl rfl ?_
  refine J_if_ne Z.1 28 dX13_ran_19 (by decide) (fun c3 => ?_) (fun c3 => ?_)
  · rw [if_neg c3] at hf
    refine J_aload_n Z.1 0 dX13_ran_28 rfl rfl ?_
    refine J_get (v := .int (hI h2 this 41)) Z.1 dX13_ran_29 fl_X13_538 t0 rfl ?_
    refine J_if_eq Z.1 48 dX13_ran_32 (by decide) (fun c4 => ?_) (fun c4 => ?_)
    · rw [if_pos c4] at hf
      refine J_aload_n Z.1 0 dX13_ran_48 rfl rfl ?_
      refine J_bipush Z.1 (v := 8) (by decide) dX13_ran_49 ?_
      obtain ⟨x7, h5, q6, hf⟩ := bd2_i hf
      refine J_callV (ci := 11) (as := [.int 8]) (rest := []) (sy := [.int x7]) Z.1 dX13_ran_51 cw_X13_268 (pX13_refuse_ok G (dk - 1) (by omega) q6) rfl rfl t0 (zG Z) rfl (by decide) (zF Z (by omega)) (zO Z (by omega) (by decide)) (zM g) Z.2.1 Z.2.1 rfl rfl ?_
      cases hf
      exact J_iret Z.1 Z.2.2.2.2.2 dX13_ran_54
    · rw [if_neg c4] at hf
      refine J_aload_n Z.1 0 dX13_ran_35 rfl rfl ?_
      refine J_aload_n Z.1 0 dX13_ran_36 rfl rfl ?_
      refine J_get (v := va_rf (hR h2 this 45)) Z.1 dX13_ran_37 fl_X13_59 t0 rfl ?_
      refine J_tr (fun r8 er8 => ?_)
      replace hf := lt_i hf r8 er8
      refine J_iload_n Z.1 1 dX13_ran_40 rfl rfl ?_
      obtain ⟨a8, rfl, hf⟩ := nn_i hf
      obtain ⟨t9, hf⟩ := tg_i hf
      obtain ⟨i10, hf⟩ := ix_i hf
      refine J_iaload Z.1 dX13_ran_41 t9 i10 ?_
      obtain ⟨x13, h11, q12, hf⟩ := bd2_i hf
      refine J_callV (ci := 11) (as := [.int (hI h2 a8 (Int32.toNatClampNeg p1))]) (rest := []) (sy := [.int x13]) Z.1 dX13_ran_42 cw_X13_541 (pX13_answer_ok G (dk - 1) (by omega) q12) rfl rfl t0 (zG Z) rfl (by decide) (zF Z (by omega)) (zO Z (by omega) (by decide)) (zM g) Z.2.1 Z.2.1 rfl rfl ?_
      refine J_goto Z.1 54 dX13_ran_45 (by decide) ?_
      cases hf
      exact J_iret Z.1 Z.2.2.2.2.2 dX13_ran_54
  · rw [if_pos c3] at hf
    refine J_aload_n Z.1 0 dX13_ran_22 rfl rfl ?_
    refine J_iconst Z.1 (v := 5) (by decide) dX13_ran_23 ?_
    obtain ⟨x16, h14, q15, hf⟩ := bd2_i hf
    refine J_callV (ci := 11) (as := [.int 5]) (rest := []) (sy := [.int x16]) Z.1 dX13_ran_24 cw_X13_268 (pX13_refuse_ok G (dk - 1) (by omega) q15) rfl rfl t0 (zG Z) rfl (by decide) (zF Z (by omega)) (zO Z (by omega) (by decide)) (zM g) Z.2.1 Z.2.1 rfl rfl ?_
    cases hf
    exact J_iret Z.1 Z.2.2.2.2.2 dX13_ran_27
theorem dX13_time_0 : decode cX13_time 0 = .ok (.aload_n 0, 1) := by decide +kernel
theorem dX13_time_1 : decode cX13_time 1 = .ok (.iconst 0, 1) := by decide +kernel
theorem dX13_time_2 : decode cX13_time 2 = .ok (.putfield 71, 3) := by decide +kernel
theorem dX13_time_5 : decode cX13_time 5 = .ok (.aload_n 0, 1) := by decide +kernel
theorem dX13_time_6 : decode cX13_time 6 = .ok (.iconst 0, 1) := by decide +kernel
theorem dX13_time_7 : decode cX13_time 7 = .ok (.putfield 74, 3) := by decide +kernel
theorem dX13_time_10 : decode cX13_time 10 = .ok (.aload_n 0, 1) := by decide +kernel
theorem dX13_time_11 : decode cX13_time 11 = .ok (.iload_n 1, 1) := by decide +kernel
theorem dX13_time_12 : decode cX13_time 12 = .ok (.invokevirtual 544, 3) := by decide +kernel
theorem dX13_time_15 : decode cX13_time 15 = .ok (.ifCond .ne 9, 3) := by decide +kernel
theorem dX13_time_18 : decode cX13_time 18 = .ok (.aload_n 0, 1) := by decide +kernel
theorem dX13_time_19 : decode cX13_time 19 = .ok (.iconst 2, 1) := by decide +kernel
theorem dX13_time_20 : decode cX13_time 20 = .ok (.invokevirtual 268, 3) := by decide +kernel
theorem dX13_time_23 : decode cX13_time 23 = .ok (.ireturn, 1) := by decide +kernel
theorem dX13_time_24 : decode cX13_time 24 = .ok (.iload_n 2, 1) := by decide +kernel
theorem dX13_time_25 : decode cX13_time 25 = .ok (.i2l, 1) := by decide +kernel
theorem dX13_time_26 : decode cX13_time 26 = .ok (.lconst 0, 1) := by decide +kernel
theorem dX13_time_27 : decode cX13_time 27 = .ok (.lconst 1, 1) := by decide +kernel
theorem dX13_time_28 : decode cX13_time 28 = .ok (.invokestatic 104, 3) := by decide +kernel
theorem dX13_time_31 : decode cX13_time 31 = .ok (.ifCond .ne 9, 3) := by decide +kernel
theorem dX13_time_34 : decode cX13_time 34 = .ok (.aload_n 0, 1) := by decide +kernel
theorem dX13_time_35 : decode cX13_time 35 = .ok (.iconst 5, 1) := by decide +kernel
theorem dX13_time_36 : decode cX13_time 36 = .ok (.invokevirtual 268, 3) := by decide +kernel
theorem dX13_time_39 : decode cX13_time 39 = .ok (.ireturn, 1) := by decide +kernel
theorem dX13_time_40 : decode cX13_time 40 = .ok (.aload_n 0, 1) := by decide +kernel
theorem dX13_time_41 : decode cX13_time 41 = .ok (.getfield 271, 3) := by decide +kernel
theorem dX13_time_44 : decode cX13_time 44 = .ok (.ifCond .eq 12, 3) := by decide +kernel
theorem dX13_time_47 : decode cX13_time 47 = .ok (.aload_n 0, 1) := by decide +kernel
theorem dX13_time_48 : decode cX13_time 48 = .ok (.getfield 62, 3) := by decide +kernel
theorem dX13_time_51 : decode cX13_time 51 = .ok (.iload_n 1, 1) := by decide +kernel
theorem dX13_time_52 : decode cX13_time 52 = .ok (.iaload, 1) := by decide +kernel
theorem dX13_time_53 : decode cX13_time 53 = .ok (.ifCond .ge 10, 3) := by decide +kernel
theorem dX13_time_56 : decode cX13_time 56 = .ok (.aload_n 0, 1) := by decide +kernel
theorem dX13_time_57 : decode cX13_time 57 = .ok (.bipush 8, 2) := by decide +kernel
theorem dX13_time_59 : decode cX13_time 59 = .ok (.invokevirtual 268, 3) := by decide +kernel
theorem dX13_time_62 : decode cX13_time 62 = .ok (.ireturn, 1) := by decide +kernel
theorem dX13_time_63 : decode cX13_time 63 = .ok (.iload_n 2, 1) := by decide +kernel
theorem dX13_time_64 : decode cX13_time 64 = .ok (.ifCond .ne 12, 3) := by decide +kernel
theorem dX13_time_67 : decode cX13_time 67 = .ok (.aload_n 0, 1) := by decide +kernel
theorem dX13_time_68 : decode cX13_time 68 = .ok (.getfield 62, 3) := by decide +kernel
theorem dX13_time_71 : decode cX13_time 71 = .ok (.iload_n 1, 1) := by decide +kernel
theorem dX13_time_72 : decode cX13_time 72 = .ok (.iaload, 1) := by decide +kernel
theorem dX13_time_73 : decode cX13_time 73 = .ok (.goto 13, 3) := by decide +kernel
theorem dX13_time_76 : decode cX13_time 76 = .ok (.aload_n 0, 1) := by decide +kernel
theorem dX13_time_77 : decode cX13_time 77 = .ok (.aload_n 0, 1) := by decide +kernel
theorem dX13_time_78 : decode cX13_time 78 = .ok (.getfield 65, 3) := by decide +kernel
theorem dX13_time_81 : decode cX13_time 81 = .ok (.iload_n 1, 1) := by decide +kernel
theorem dX13_time_82 : decode cX13_time 82 = .ok (.iaload, 1) := by decide +kernel
theorem dX13_time_83 : decode cX13_time 83 = .ok (.invokevirtual 541, 3) := by decide +kernel
theorem dX13_time_86 : decode cX13_time 86 = .ok (.ireturn, 1) := by decide +kernel
def pX13_time_b56 (g : MT) (this : Nat) (p1 : Int32) (p2 : Int32) (h : CT) : Option ((Int32) × CT) := bd2 (pX13_refuse g h this 8) fun x3 h1 => (some (x3, h1))
set_option maxRecDepth 10000 in
set_option maxHeartbeats 4000000 in
theorem pX13_time_b56_ok {X : Cx} {G : Gx} {dk : Nat} {g : MT} {r0 : Int32} {h0 : CT} {this : Nat} {p1 : Int32} {p2 : Int32} (Z : Zx X G cX13_time RX13 3 dk (some .int) (some (.int r0)) g h0) (hK : 2 ≤ dk) (t0 : gT g this = 12) (h : CT) (hf : pX13_time_b56 g this p1 p2 h = some (r0, h0)) : J X g h 56 [(0, va_rf (some this))] [] := by
  unfold pX13_time_b56 at hf
  refine J_aload_n Z.1 0 dX13_time_56 rfl rfl ?_
  refine J_bipush Z.1 (v := 8) (by decide) dX13_time_57 ?_
  obtain ⟨x3, h1, q2, hf⟩ := bd2_i hf
  refine J_callV (ci := 11) (as := [.int 8]) (rest := []) (sy := [.int x3]) Z.1 dX13_time_59 cw_X13_268 (pX13_refuse_ok G (dk - 1) (by omega) q2) rfl rfl t0 (zG Z) rfl (by decide) (zF Z (by omega)) (zO Z (by omega) (by decide)) (zM g) Z.2.1 Z.2.1 rfl rfl ?_
  cases hf
  exact J_iret Z.1 Z.2.2.2.2.2 dX13_time_62
def pX13_time (g : MT) (h : CT) (this : Nat) (p1 : Int32) (p2 : Int32) : Option ((Int32) × CT) := tg g this 12 (lt (sI h this 1 0) fun h1 => (lt (sI h1 this 0 0) fun h2 => (bd (pX13_isCode g h2 this p1) fun x3 => (if x3 = 0 then bd2 (pX13_refuse g h2 this 2) fun x27 h25 => (some (x27, h25)) else if (pX13_isIn (Int32.toInt64 p2) 0 1) = 0 then bd2 (pX13_refuse g h2 this 5) fun x24 h22 => (some (x24, h22)) else if (hI h2 this 22) = 0 then pX13_time_b56 g this p1 p2  h2 else lt (hR h2 this 46) fun r8 => (nn r8 fun a8 => (tg g a8 20 (ix (gL g a8) p1 (if 0 ≤ (hI h2 a8 (Int32.toNatClampNeg p1)) then if p2 = 0 then lt (hR h2 this 46) fun r19 => (nn r19 fun a19 => (tg g a19 20 (ix (gL g a19) p1 (some ((hI h2 a19 (Int32.toNatClampNeg p1)), h2))))) else lt (hR h2 this 47) fun r13 => (nn r13 fun a13 => (tg g a13 20 (ix (gL g a13) p1 (bd2 (pX13_answer g h2 this (hI h2 a13 (Int32.toNatClampNeg p1))) fun x18 h16 => (some (x18, h16)))))) else pX13_time_b56 g this p1 p2  h2))))))))
set_option maxRecDepth 10000 in
set_option maxHeartbeats 4000000 in
theorem pX13_time_ok (G : Gx) (dk : Nat) (hK : 2 ≤ dk) {g : MT} {h h0 : CT} {this : Nat} {p1 : Int32} {p2 : Int32} {r0 : Int32} (hf : pX13_time g h this p1 p2 = some (r0, h0)) : Ctr G dk yX13_time cX13_time 3 (some .int) [va_rf (some this), .int p1, .int p2] g h (some (.int r0)) g h0 := by
  refine Ctr.ofZ (lv := [(0, va_rf (some this)), (1, .int p1), (2, .int p2)]) (by decide +kernel) (by simp [cat_i, cat_l, cat_d, cat_rf]) rfl fun X Z => ?_
  unfold pX13_time at hf
  obtain ⟨t0, hf⟩ := tg_i hf
  refine J_aload_n Z.1 0 dX13_time_0 rfl rfl ?_
  refine J_iconst Z.1 (v := 0) (by decide) dX13_time_1 ?_
  refine J_putI Z.1 dX13_time_2 fl_X13_71 (fun q => by cases q) t0 rfl rfl (congrArg Value.int (hI_s _ _ _ _)) ?_
  refine J_th (fun h1 eh1 => ?_)
  replace hf := lt_i hf h1 eh1
  refine J_aload_n Z.1 0 dX13_time_5 rfl rfl ?_
  refine J_iconst Z.1 (v := 0) (by decide) dX13_time_6 ?_
  refine J_putI Z.1 dX13_time_7 fl_X13_74 (fun q => by cases q) t0 rfl rfl (congrArg Value.int (hI_s _ _ _ _)) ?_
  refine J_th (fun h2 eh2 => ?_)
  replace hf := lt_i hf h2 eh2
  refine J_aload_n Z.1 0 dX13_time_10 rfl rfl ?_
  refine J_iload_n Z.1 1 dX13_time_11 rfl rfl ?_
  obtain ⟨x3, q4, hf⟩ := bd_i hf
  refine J_callV (ci := 11) (as := [.int p1]) (rest := []) (sy := [.int x3]) Z.1 dX13_time_12 cw_X13_544 (pX13_isCode_ok G (dk - 1) (by omega) q4) rfl rfl t0 (zG Z) rfl (by decide) (zF Z (by omega)) (zO Z (by omega) (by decide)) (zM g) Z.2.1 Z.2.1 rfl rfl ?_
  refine J_if_ne Z.1 24 dX13_time_15 (by decide) (fun c5 => ?_) (fun c5 => ?_)
  · rw [if_neg c5] at hf
    refine J_iload_n Z.1 2 dX13_time_24 rfl rfl ?_
    refine J_i2l Z.1 dX13_time_25 ?_
    refine J_lconst Z.1 (v := 0) (by decide) dX13_time_26 ?_
    refine J_lconst Z.1 (v := 1) (by decide) dX13_time_27 ?_
    refine J_callS (as := [.long (Int32.toInt64 p2), .long 0, .long 1]) (rest := []) (sy := [.int (pX13_isIn (Int32.toInt64 p2) 0 1)]) Z.1 dX13_time_28 cw_X13_104 (pX13_isIn_ok G (dk - 1) (by omega) g h2 (Int32.toInt64 p2) 0 1) (zG Z) rfl (by decide) (zF Z (by omega)) (zO Z (by omega) (by decide)) (zM g) Z.2.1 Z.2.1 rfl rfl ?_
    refine J_if_ne Z.1 40 dX13_time_31 (by decide) (fun c6 => ?_) (fun c6 => ?_)
    · rw [if_neg c6] at hf
      refine J_aload_n Z.1 0 dX13_time_40 rfl rfl ?_
      refine J_get (v := .int (hI h2 this 22)) Z.1 dX13_time_41 fl_X13_271 t0 rfl ?_
      refine J_if_eq Z.1 56 dX13_time_44 (by decide) (fun c7 => ?_) (fun c7 => ?_)
      · rw [if_pos c7] at hf
        refine J_lv [0] rfl ?_
        exact pX13_time_b56_ok Z hK t0  _ hf
      · rw [if_neg c7] at hf
        refine J_aload_n Z.1 0 dX13_time_47 rfl rfl ?_
        refine J_get (v := va_rf (hR h2 this 46)) Z.1 dX13_time_48 fl_X13_62 t0 rfl ?_
        refine J_tr (fun r8 er8 => ?_)
        replace hf := lt_i hf r8 er8
        refine J_iload_n Z.1 1 dX13_time_51 rfl rfl ?_
        obtain ⟨a8, rfl, hf⟩ := nn_i hf
        obtain ⟨t9, hf⟩ := tg_i hf
        obtain ⟨i10, hf⟩ := ix_i hf
        refine J_iaload Z.1 dX13_time_52 t9 i10 ?_
        refine J_if_ge Z.1 63 dX13_time_53 (by decide) (fun c11 => ?_) (fun c11 => ?_)
        · rw [if_pos c11] at hf
          refine J_iload_n Z.1 2 dX13_time_63 rfl rfl ?_
          refine J_if_ne Z.1 76 dX13_time_64 (by decide) (fun c12 => ?_) (fun c12 => ?_)
          · rw [if_neg c12] at hf
            refine J_aload_n Z.1 0 dX13_time_76 rfl rfl ?_
            refine J_aload_n Z.1 0 dX13_time_77 rfl rfl ?_
            refine J_get (v := va_rf (hR h2 this 47)) Z.1 dX13_time_78 fl_X13_65 t0 rfl ?_
            refine J_tr (fun r13 er13 => ?_)
            replace hf := lt_i hf r13 er13
            refine J_iload_n Z.1 1 dX13_time_81 rfl rfl ?_
            obtain ⟨a13, rfl, hf⟩ := nn_i hf
            obtain ⟨t14, hf⟩ := tg_i hf
            obtain ⟨i15, hf⟩ := ix_i hf
            refine J_iaload Z.1 dX13_time_82 t14 i15 ?_
            obtain ⟨x18, h16, q17, hf⟩ := bd2_i hf
            refine J_callV (ci := 11) (as := [.int (hI h2 a13 (Int32.toNatClampNeg p1))]) (rest := []) (sy := [.int x18]) Z.1 dX13_time_83 cw_X13_541 (pX13_answer_ok G (dk - 1) (by omega) q17) rfl rfl t0 (zG Z) rfl (by decide) (zF Z (by omega)) (zO Z (by omega) (by decide)) (zM g) Z.2.1 Z.2.1 rfl rfl ?_
            cases hf
            exact J_iret Z.1 Z.2.2.2.2.2 dX13_time_86
          · rw [if_pos c12] at hf
            refine J_aload_n Z.1 0 dX13_time_67 rfl rfl ?_
            refine J_get (v := va_rf (hR h2 this 46)) Z.1 dX13_time_68 fl_X13_62 t0 rfl ?_
            refine J_tr (fun r19 er19 => ?_)
            replace hf := lt_i hf r19 er19
            refine J_iload_n Z.1 1 dX13_time_71 rfl rfl ?_
            obtain ⟨a19, rfl, hf⟩ := nn_i hf
            obtain ⟨t20, hf⟩ := tg_i hf
            obtain ⟨i21, hf⟩ := ix_i hf
            refine J_iaload Z.1 dX13_time_72 t20 i21 ?_
            refine J_goto Z.1 86 dX13_time_73 (by decide) ?_
            cases hf
            exact J_iret Z.1 Z.2.2.2.2.2 dX13_time_86
        · rw [if_neg c11] at hf
          refine J_lv [0] rfl ?_
          exact pX13_time_b56_ok Z hK t0  _ hf
    · rw [if_pos c6] at hf
      refine J_aload_n Z.1 0 dX13_time_34 rfl rfl ?_
      refine J_iconst Z.1 (v := 5) (by decide) dX13_time_35 ?_
      obtain ⟨x24, h22, q23, hf⟩ := bd2_i hf
      refine J_callV (ci := 11) (as := [.int 5]) (rest := []) (sy := [.int x24]) Z.1 dX13_time_36 cw_X13_268 (pX13_refuse_ok G (dk - 1) (by omega) q23) rfl rfl t0 (zG Z) rfl (by decide) (zF Z (by omega)) (zO Z (by omega) (by decide)) (zM g) Z.2.1 Z.2.1 rfl rfl ?_
      cases hf
      exact J_iret Z.1 Z.2.2.2.2.2 dX13_time_39
  · rw [if_pos c5] at hf
    refine J_aload_n Z.1 0 dX13_time_18 rfl rfl ?_
    refine J_iconst Z.1 (v := 2) (by decide) dX13_time_19 ?_
    obtain ⟨x27, h25, q26, hf⟩ := bd2_i hf
    refine J_callV (ci := 11) (as := [.int 2]) (rest := []) (sy := [.int x27]) Z.1 dX13_time_20 cw_X13_268 (pX13_refuse_ok G (dk - 1) (by omega) q26) rfl rfl t0 (zG Z) rfl (by decide) (zF Z (by omega)) (zO Z (by omega) (by decide)) (zM g) Z.2.1 Z.2.1 rfl rfl ?_
    cases hf
    exact J_iret Z.1 Z.2.2.2.2.2 dX13_time_23
theorem dX13_laysRound_0 : decode cX13_laysRound 0 = .ok (.iload_n 1, 1) := by decide +kernel
theorem dX13_laysRound_1 : decode cX13_laysRound 1 = .ok (.istore_n 3, 1) := by decide +kernel
theorem dX13_laysRound_2 : decode cX13_laysRound 2 = .ok (.aload_n 0, 1) := by decide +kernel
theorem dX13_laysRound_3 : decode cX13_laysRound 3 = .ok (.iconst 0, 1) := by decide +kernel
theorem dX13_laysRound_4 : decode cX13_laysRound 4 = .ok (.putfield 554, 3) := by decide +kernel
theorem dX13_laysRound_7 : decode cX13_laysRound 7 = .ok (.iload_n 2, 1) := by decide +kernel
theorem dX13_laysRound_8 : decode cX13_laysRound 8 = .ok (.iload_n 3, 1) := by decide +kernel
theorem dX13_laysRound_9 : decode cX13_laysRound 9 = .ok (.iconst 1, 1) := by decide +kernel
theorem dX13_laysRound_10 : decode cX13_laysRound 10 = .ok (.iadd, 1) := by decide +kernel
theorem dX13_laysRound_11 : decode cX13_laysRound 11 = .ok (.iconst 2, 1) := by decide +kernel
theorem dX13_laysRound_12 : decode cX13_laysRound 12 = .ok (.idiv, 1) := by decide +kernel
theorem dX13_laysRound_13 : decode cX13_laysRound 13 = .ok (.if_icmp .ge 22, 3) := by decide +kernel
theorem dX13_laysRound_16 : decode cX13_laysRound 16 = .ok (.iload_n 3, 1) := by decide +kernel
theorem dX13_laysRound_17 : decode cX13_laysRound 17 = .ok (.iconst 1, 1) := by decide +kernel
theorem dX13_laysRound_18 : decode cX13_laysRound 18 = .ok (.iadd, 1) := by decide +kernel
theorem dX13_laysRound_19 : decode cX13_laysRound 19 = .ok (.iconst 2, 1) := by decide +kernel
theorem dX13_laysRound_20 : decode cX13_laysRound 20 = .ok (.idiv, 1) := by decide +kernel
theorem dX13_laysRound_21 : decode cX13_laysRound 21 = .ok (.istore_n 3, 1) := by decide +kernel
theorem dX13_laysRound_22 : decode cX13_laysRound 22 = .ok (.aload_n 0, 1) := by decide +kernel
theorem dX13_laysRound_23 : decode cX13_laysRound 23 = .ok (.dup, 1) := by decide +kernel
theorem dX13_laysRound_24 : decode cX13_laysRound 24 = .ok (.getfield 554, 3) := by decide +kernel
theorem dX13_laysRound_27 : decode cX13_laysRound 27 = .ok (.iconst 1, 1) := by decide +kernel
theorem dX13_laysRound_28 : decode cX13_laysRound 28 = .ok (.iadd, 1) := by decide +kernel
theorem dX13_laysRound_29 : decode cX13_laysRound 29 = .ok (.putfield 554, 3) := by decide +kernel
theorem dX13_laysRound_32 : decode cX13_laysRound 32 = .ok (.goto (-25), 3) := by decide +kernel
theorem dX13_laysRound_35 : decode cX13_laysRound 35 = .ok (.aload_n 0, 1) := by decide +kernel
theorem dX13_laysRound_36 : decode cX13_laysRound 36 = .ok (.iload_n 2, 1) := by decide +kernel
theorem dX13_laysRound_37 : decode cX13_laysRound 37 = .ok (.iload_n 3, 1) := by decide +kernel
theorem dX13_laysRound_38 : decode cX13_laysRound 38 = .ok (.iconst 1, 1) := by decide +kernel
theorem dX13_laysRound_39 : decode cX13_laysRound 39 = .ok (.iadd, 1) := by decide +kernel
theorem dX13_laysRound_40 : decode cX13_laysRound 40 = .ok (.iconst 2, 1) := by decide +kernel
theorem dX13_laysRound_41 : decode cX13_laysRound 41 = .ok (.idiv, 1) := by decide +kernel
theorem dX13_laysRound_42 : decode cX13_laysRound 42 = .ok (.isub, 1) := by decide +kernel
theorem dX13_laysRound_43 : decode cX13_laysRound 43 = .ok (.putfield 557, 3) := by decide +kernel
theorem dX13_laysRound_46 : decode cX13_laysRound 46 = .ok (.return_, 1) := by decide +kernel
def pX13_laysRound_b7 (g : MT) (this : Nat) (p1 : Int32) (p2 : Int32) (k7 : Int32 → CT → Option CT) (l3 : Int32) (h : CT) : Option CT := if ((l3 + 1) / 2) ≤ p2 then lt (sI h this 49 (p2 - ((l3 + 1) / 2))) fun h2 => (some h2) else lt ((l3 + 1) / 2) fun x3 => (lt (sI h this 48 ((hI h this 48) + 1)) fun h4 => (k7 x3 h4))
set_option maxRecDepth 10000 in
set_option maxHeartbeats 4000000 in
theorem pX13_laysRound_b7_ok {X : Cx} {G : Gx} {dk : Nat} {g : MT} {h0 : CT} {this : Nat} {p1 : Int32} {p2 : Int32} {k7 : Int32 → CT → Option CT} (Z : Zx X G cX13_laysRound RX13 4 dk none none g h0) (hK : 0 ≤ dk) (t0 : gT g this = 12) (hk7 : ∀ (l3 : Int32) (h : CT), k7 l3 h = some h0 → J X g h 7 [(0, va_rf (some this)), (2, .int p2), (3, .int l3)] []) (l3 : Int32) (h : CT) (hf : pX13_laysRound_b7 g this p1 p2 k7 l3 h = some h0) : J X g h 7 [(0, va_rf (some this)), (2, .int p2), (3, .int l3)] [] := by
  unfold pX13_laysRound_b7 at hf
  refine J_iload_n Z.1 1 dX13_laysRound_7 rfl rfl ?_
  refine J_iload_n Z.1 2 dX13_laysRound_8 rfl rfl ?_
  refine J_iconst Z.1 (v := 1) (by decide) dX13_laysRound_9 ?_
  refine J_iadd Z.1 dX13_laysRound_10 ?_
  refine J_iconst Z.1 (v := 2) (by decide) dX13_laysRound_11 ?_
  refine J_idiv Z.1 (by decide) dX13_laysRound_12 ?_
  refine J_icmp_ge Z.1 35 dX13_laysRound_13 (by decide) (fun c1 => ?_) (fun c1 => ?_)
  · rw [if_pos c1] at hf
    refine J_aload_n Z.1 0 dX13_laysRound_35 rfl rfl ?_
    refine J_iload_n Z.1 1 dX13_laysRound_36 rfl rfl ?_
    refine J_iload_n Z.1 2 dX13_laysRound_37 rfl rfl ?_
    refine J_iconst Z.1 (v := 1) (by decide) dX13_laysRound_38 ?_
    refine J_iadd Z.1 dX13_laysRound_39 ?_
    refine J_iconst Z.1 (v := 2) (by decide) dX13_laysRound_40 ?_
    refine J_idiv Z.1 (by decide) dX13_laysRound_41 ?_
    refine J_isub Z.1 dX13_laysRound_42 ?_
    refine J_putI Z.1 dX13_laysRound_43 fl_X13_557 (fun q => by cases q) t0 rfl rfl (congrArg Value.int (hI_s _ _ _ _)) ?_
    refine J_th (fun h2 eh2 => ?_)
    replace hf := lt_i hf h2 eh2
    cases hf
    exact J_vret Z.1 Z.2.2.2.2.2 dX13_laysRound_46
  · rw [if_neg c1] at hf
    refine J_iload_n Z.1 2 dX13_laysRound_16 rfl rfl ?_
    refine J_iconst Z.1 (v := 1) (by decide) dX13_laysRound_17 ?_
    refine J_iadd Z.1 dX13_laysRound_18 ?_
    refine J_iconst Z.1 (v := 2) (by decide) dX13_laysRound_19 ?_
    refine J_idiv Z.1 (by decide) dX13_laysRound_20 ?_
    refine J_ti (fun x3 ex3 => ?_)
    replace hf := lt_i hf x3 ex3
    refine J_istore_n Z.1 (lv2 := [(3, .int x3), (0, va_rf (some this)), (2, .int p2)]) dX13_laysRound_21 rfl (zL Z (by decide)) rfl ?_
    refine J_aload_n Z.1 1 dX13_laysRound_22 rfl rfl ?_
    refine J_dup Z.1 dX13_laysRound_23 rfl ?_
    refine J_get (v := .int (hI h this 48)) Z.1 dX13_laysRound_24 fl_X13_554 t0 rfl ?_
    refine J_iconst Z.1 (v := 1) (by decide) dX13_laysRound_27 ?_
    refine J_iadd Z.1 dX13_laysRound_28 ?_
    refine J_putI Z.1 dX13_laysRound_29 fl_X13_554 (fun q => by cases q) t0 rfl rfl (congrArg Value.int (hI_s _ _ _ _)) ?_
    refine J_th (fun h4 eh4 => ?_)
    replace hf := lt_i hf h4 eh4
    refine J_goto Z.1 7 dX13_laysRound_32 (by decide) ?_
    refine J_lv [1, 2, 0] rfl ?_
    exact hk7 _ _ hf
def pX13_laysRound_l7 (g : MT) (this : Nat) (p1 : Int32) (p2 : Int32) : Nat → Int32 → CT → Option CT
  | 0, _, _ => none
  | n + 1, l3, h => pX13_laysRound_b7 g this p1 p2 (pX13_laysRound_l7 g this p1 p2 n) l3 h
theorem pX13_laysRound_l7_ok {X : Cx} {G : Gx} {dk : Nat} {g : MT} {h0 : CT} {this : Nat} {p1 : Int32} {p2 : Int32} (Z : Zx X G cX13_laysRound RX13 4 dk none none g h0) (hK : 0 ≤ dk) (t0 : gT g this = 12) : ∀ (n : Nat) (l3 : Int32) (h : CT), pX13_laysRound_l7 g this p1 p2 n l3 h = some h0 → J X g h 7 [(0, va_rf (some this)), (2, .int p2), (3, .int l3)] [] := by
  intro n
  induction n with
  | zero => intro l3 h hf; cases hf
  | succ n ih => intro l3 h hf; exact pX13_laysRound_b7_ok Z hK t0 ih l3 h hf
def pX13_laysRound (g : MT) (h : CT) (this : Nat) (p1 : Int32) (p2 : Int32) : Option CT := tg g this 12 (lt (sI h this 48 0) fun h1 => (pX13_laysRound_l7 g this p1 p2  FUEL p1 h1))
set_option maxRecDepth 10000 in
set_option maxHeartbeats 4000000 in
theorem pX13_laysRound_ok (G : Gx) (dk : Nat) (hK : 0 ≤ dk) {g : MT} {h h0 : CT} {this : Nat} {p1 : Int32} {p2 : Int32} (hf : pX13_laysRound g h this p1 p2 = some h0) : Ctr G dk yX13_laysRound cX13_laysRound 4 none [va_rf (some this), .int p1, .int p2] g h none g h0 := by
  refine Ctr.ofZ (lv := [(0, va_rf (some this)), (1, .int p1), (2, .int p2)]) (by decide +kernel) (by simp [cat_i, cat_l, cat_d, cat_rf]) rfl fun X Z => ?_
  unfold pX13_laysRound at hf
  obtain ⟨t0, hf⟩ := tg_i hf
  refine J_iload_n Z.1 1 dX13_laysRound_0 rfl rfl ?_
  refine J_istore_n Z.1 (lv2 := [(3, .int p1), (0, va_rf (some this)), (1, .int p1), (2, .int p2)]) dX13_laysRound_1 rfl (zL Z (by decide)) rfl ?_
  refine J_aload_n Z.1 1 dX13_laysRound_2 rfl rfl ?_
  refine J_iconst Z.1 (v := 0) (by decide) dX13_laysRound_3 ?_
  refine J_putI Z.1 dX13_laysRound_4 fl_X13_554 (fun q => by cases q) t0 rfl rfl (congrArg Value.int (hI_s _ _ _ _)) ?_
  refine J_th (fun h1 eh1 => ?_)
  replace hf := lt_i hf h1 eh1
  refine J_lv [1, 3, 0] rfl ?_
  exact pX13_laysRound_l7_ok Z hK t0  FUEL _ _ hf
theorem dX13_whyNoRound_0 : decode cX13_whyNoRound 0 = .ok (.iload_n 2, 1) := by decide +kernel
theorem dX13_whyNoRound_1 : decode cX13_whyNoRound 1 = .ok (.i2l, 1) := by decide +kernel
theorem dX13_whyNoRound_2 : decode cX13_whyNoRound 2 = .ok (.lconst 0, 1) := by decide +kernel
theorem dX13_whyNoRound_3 : decode cX13_whyNoRound 3 = .ok (.iload_n 1, 1) := by decide +kernel
theorem dX13_whyNoRound_4 : decode cX13_whyNoRound 4 = .ok (.i2l, 1) := by decide +kernel
theorem dX13_whyNoRound_5 : decode cX13_whyNoRound 5 = .ok (.lconst 1, 1) := by decide +kernel
theorem dX13_whyNoRound_6 : decode cX13_whyNoRound 6 = .ok (.lsub, 1) := by decide +kernel
theorem dX13_whyNoRound_7 : decode cX13_whyNoRound 7 = .ok (.invokestatic 104, 3) := by decide +kernel
theorem dX13_whyNoRound_10 : decode cX13_whyNoRound 10 = .ok (.ifCond .ne 5, 3) := by decide +kernel
theorem dX13_whyNoRound_13 : decode cX13_whyNoRound 13 = .ok (.iconst 2, 1) := by decide +kernel
theorem dX13_whyNoRound_14 : decode cX13_whyNoRound 14 = .ok (.ireturn, 1) := by decide +kernel
theorem dX13_whyNoRound_15 : decode cX13_whyNoRound 15 = .ok (.iload_n 1, 1) := by decide +kernel
theorem dX13_whyNoRound_16 : decode cX13_whyNoRound 16 = .ok (.i2l, 1) := by decide +kernel
theorem dX13_whyNoRound_17 : decode cX13_whyNoRound 17 = .ok (.lconst 1, 1) := by decide +kernel
theorem dX13_whyNoRound_18 : decode cX13_whyNoRound 18 = .ok (.ldc2_w 560, 3) := by decide +kernel
theorem dX13_whyNoRound_21 : decode cX13_whyNoRound 21 = .ok (.invokestatic 104, 3) := by decide +kernel
theorem dX13_whyNoRound_24 : decode cX13_whyNoRound 24 = .ok (.ifCond .ne 7, 3) := by decide +kernel
theorem dX13_whyNoRound_27 : decode cX13_whyNoRound 27 = .ok (.iconst 5, 1) := by decide +kernel
theorem dX13_whyNoRound_28 : decode cX13_whyNoRound 28 = .ok (.goto 13, 3) := by decide +kernel
theorem dX13_whyNoRound_31 : decode cX13_whyNoRound 31 = .ok (.iload_n 2, 1) := by decide +kernel
theorem dX13_whyNoRound_32 : decode cX13_whyNoRound 32 = .ok (.ifCond .ne 8, 3) := by decide +kernel
theorem dX13_whyNoRound_35 : decode cX13_whyNoRound 35 = .ok (.bipush 8, 2) := by decide +kernel
theorem dX13_whyNoRound_37 : decode cX13_whyNoRound 37 = .ok (.goto 4, 3) := by decide +kernel
theorem dX13_whyNoRound_40 : decode cX13_whyNoRound 40 = .ok (.iconst 0, 1) := by decide +kernel
theorem dX13_whyNoRound_41 : decode cX13_whyNoRound 41 = .ok (.ireturn, 1) := by decide +kernel
def pX13_whyNoRound (this : Nat) (p1 : Int32) (p2 : Int32) : Int32 := if (pX13_isIn (Int32.toInt64 p2) 0 ((Int32.toInt64 p1) - 1)) = 0 then 2 else if (pX13_isIn (Int32.toInt64 p1) 1 16) = 0 then 5 else if p2 = 0 then 8 else 0
set_option maxRecDepth 10000 in
set_option maxHeartbeats 4000000 in
theorem pX13_whyNoRound_ok (G : Gx) (dk : Nat) (hK : 1 ≤ dk) (g : MT) (h0 : CT) (this : Nat) (p1 : Int32) (p2 : Int32) : Ctr G dk yX13_whyNoRound cX13_whyNoRound 3 (some .int) [va_rf (some this), .int p1, .int p2] g h0 (some (.int (pX13_whyNoRound this p1 p2))) g h0 := by
  obtain ⟨r0, hf⟩ : ∃ z, pX13_whyNoRound this p1 p2 = z := ⟨_, rfl⟩
  rw [hf]
  refine Ctr.ofZ (lv := [(0, va_rf (some this)), (1, .int p1), (2, .int p2)]) (by decide +kernel) (by simp [cat_i, cat_l, cat_d, cat_rf]) rfl fun X Z => ?_
  unfold pX13_whyNoRound at hf
  refine J_iload_n Z.1 2 dX13_whyNoRound_0 rfl rfl ?_
  refine J_i2l Z.1 dX13_whyNoRound_1 ?_
  refine J_lconst Z.1 (v := 0) (by decide) dX13_whyNoRound_2 ?_
  refine J_iload_n Z.1 1 dX13_whyNoRound_3 rfl rfl ?_
  refine J_i2l Z.1 dX13_whyNoRound_4 ?_
  refine J_lconst Z.1 (v := 1) (by decide) dX13_whyNoRound_5 ?_
  refine J_lsub Z.1 dX13_whyNoRound_6 ?_
  refine J_callS (as := [.long (Int32.toInt64 p2), .long 0, .long ((Int32.toInt64 p1) - 1)]) (rest := []) (sy := [.int (pX13_isIn (Int32.toInt64 p2) 0 ((Int32.toInt64 p1) - 1))]) Z.1 dX13_whyNoRound_7 cw_X13_104 (pX13_isIn_ok G (dk - 1) (by omega) g h0 (Int32.toInt64 p2) 0 ((Int32.toInt64 p1) - 1)) (zG Z) rfl (by decide) (zF Z (by omega)) (zO Z (by omega) (by decide)) (zM g) Z.2.1 Z.2.1 rfl rfl ?_
  refine J_if_ne Z.1 15 dX13_whyNoRound_10 (by decide) (fun c1 => ?_) (fun c1 => ?_)
  · rw [if_neg c1] at hf
    refine J_iload_n Z.1 1 dX13_whyNoRound_15 rfl rfl ?_
    refine J_i2l Z.1 dX13_whyNoRound_16 ?_
    refine J_lconst Z.1 (v := 1) (by decide) dX13_whyNoRound_17 ?_
    refine J_ldc2 Z.1 q_2086 dX13_whyNoRound_18 ?_
    refine J_callS (as := [.long (Int32.toInt64 p1), .long 1, .long 16]) (rest := []) (sy := [.int (pX13_isIn (Int32.toInt64 p1) 1 16)]) Z.1 dX13_whyNoRound_21 cw_X13_104 (pX13_isIn_ok G (dk - 1) (by omega) g h0 (Int32.toInt64 p1) 1 16) (zG Z) rfl (by decide) (zF Z (by omega)) (zO Z (by omega) (by decide)) (zM g) Z.2.1 Z.2.1 rfl rfl ?_
    refine J_if_ne Z.1 31 dX13_whyNoRound_24 (by decide) (fun c2 => ?_) (fun c2 => ?_)
    · rw [if_neg c2] at hf
      refine J_iload_n Z.1 2 dX13_whyNoRound_31 rfl rfl ?_
      refine J_if_ne Z.1 40 dX13_whyNoRound_32 (by decide) (fun c3 => ?_) (fun c3 => ?_)
      · rw [if_neg c3] at hf
        refine J_iconst Z.1 (v := 0) (by decide) dX13_whyNoRound_40 ?_
        cases hf
        exact J_iret Z.1 Z.2.2.2.2.2 dX13_whyNoRound_41
      · rw [if_pos c3] at hf
        refine J_bipush Z.1 (v := 8) (by decide) dX13_whyNoRound_35 ?_
        refine J_goto Z.1 41 dX13_whyNoRound_37 (by decide) ?_
        cases hf
        exact J_iret Z.1 Z.2.2.2.2.2 dX13_whyNoRound_41
    · rw [if_pos c2] at hf
      refine J_iconst Z.1 (v := 5) (by decide) dX13_whyNoRound_27 ?_
      refine J_goto Z.1 41 dX13_whyNoRound_28 (by decide) ?_
      cases hf
      exact J_iret Z.1 Z.2.2.2.2.2 dX13_whyNoRound_41
  · rw [if_pos c1] at hf
    refine J_iconst Z.1 (v := 2) (by decide) dX13_whyNoRound_13 ?_
    cases hf
    exact J_iret Z.1 Z.2.2.2.2.2 dX13_whyNoRound_14
