/-! written by wip/whole/gen.py out of the printed bytecode -/
theorem dX13_takenAt_0 : decode cX13_takenAt 0 = .ok (.aload_n 0, 1) := by decide +kernel
theorem dX13_takenAt_1 : decode cX13_takenAt 1 = .ok (.iload_n 1, 1) := by decide +kernel
theorem dX13_takenAt_2 : decode cX13_takenAt 2 = .ok (.iconst 0, 1) := by decide +kernel
theorem dX13_takenAt_3 : decode cX13_takenAt 3 = .ok (.invokevirtual 381, 3) := by decide +kernel
theorem dX13_takenAt_6 : decode cX13_takenAt 6 = .ok (.istore 5, 2) := by decide +kernel
theorem dX13_takenAt_8 : decode cX13_takenAt 8 = .ok (.iload_n 3, 1) := by decide +kernel
theorem dX13_takenAt_9 : decode cX13_takenAt 9 = .ok (.iload 4, 2) := by decide +kernel
theorem dX13_takenAt_11 : decode cX13_takenAt 11 = .ok (.iconst 1, 1) := by decide +kernel
theorem dX13_takenAt_12 : decode cX13_takenAt 12 = .ok (.iadd, 1) := by decide +kernel
theorem dX13_takenAt_13 : decode cX13_takenAt 13 = .ok (.invokestatic 178, 3) := by decide +kernel
theorem dX13_takenAt_16 : decode cX13_takenAt 16 = .ok (.istore 6, 2) := by decide +kernel
theorem dX13_takenAt_18 : decode cX13_takenAt 18 = .ok (.iload 5, 2) := by decide +kernel
theorem dX13_takenAt_20 : decode cX13_takenAt 20 = .ok (.invokestatic 383, 3) := by decide +kernel
theorem dX13_takenAt_23 : decode cX13_takenAt 23 = .ok (.ifCond .eq 18, 3) := by decide +kernel
theorem dX13_takenAt_26 : decode cX13_takenAt 26 = .ok (.aload_n 0, 1) := by decide +kernel
theorem dX13_takenAt_27 : decode cX13_takenAt 27 = .ok (.aload_n 0, 1) := by decide +kernel
theorem dX13_takenAt_28 : decode cX13_takenAt 28 = .ok (.iload_n 1, 1) := by decide +kernel
theorem dX13_takenAt_29 : decode cX13_takenAt 29 = .ok (.iconst 2, 1) := by decide +kernel
theorem dX13_takenAt_30 : decode cX13_takenAt 30 = .ok (.invokevirtual 381, 3) := by decide +kernel
theorem dX13_takenAt_33 : decode cX13_takenAt 33 = .ok (.iload_n 2, 1) := by decide +kernel
theorem dX13_takenAt_34 : decode cX13_takenAt 34 = .ok (.iload 6, 2) := by decide +kernel
theorem dX13_takenAt_36 : decode cX13_takenAt 36 = .ok (.invokevirtual 435, 3) := by decide +kernel
theorem dX13_takenAt_39 : decode cX13_takenAt 39 = .ok (.istore 6, 2) := by decide +kernel
theorem dX13_takenAt_41 : decode cX13_takenAt 41 = .ok (.iload 5, 2) := by decide +kernel
theorem dX13_takenAt_43 : decode cX13_takenAt 43 = .ok (.invokestatic 389, 3) := by decide +kernel
theorem dX13_takenAt_46 : decode cX13_takenAt 46 = .ok (.ifCond .eq 18, 3) := by decide +kernel
theorem dX13_takenAt_49 : decode cX13_takenAt 49 = .ok (.aload_n 0, 1) := by decide +kernel
theorem dX13_takenAt_50 : decode cX13_takenAt 50 = .ok (.aload_n 0, 1) := by decide +kernel
theorem dX13_takenAt_51 : decode cX13_takenAt 51 = .ok (.iload_n 1, 1) := by decide +kernel
theorem dX13_takenAt_52 : decode cX13_takenAt 52 = .ok (.iconst 3, 1) := by decide +kernel
theorem dX13_takenAt_53 : decode cX13_takenAt 53 = .ok (.invokevirtual 381, 3) := by decide +kernel
theorem dX13_takenAt_56 : decode cX13_takenAt 56 = .ok (.iload_n 2, 1) := by decide +kernel
theorem dX13_takenAt_57 : decode cX13_takenAt 57 = .ok (.iload 6, 2) := by decide +kernel
theorem dX13_takenAt_59 : decode cX13_takenAt 59 = .ok (.invokevirtual 435, 3) := by decide +kernel
theorem dX13_takenAt_62 : decode cX13_takenAt 62 = .ok (.istore 6, 2) := by decide +kernel
theorem dX13_takenAt_64 : decode cX13_takenAt 64 = .ok (.iload 5, 2) := by decide +kernel
theorem dX13_takenAt_66 : decode cX13_takenAt 66 = .ok (.invokestatic 392, 3) := by decide +kernel
theorem dX13_takenAt_69 : decode cX13_takenAt 69 = .ok (.ifCond .eq 18, 3) := by decide +kernel
theorem dX13_takenAt_72 : decode cX13_takenAt 72 = .ok (.aload_n 0, 1) := by decide +kernel
theorem dX13_takenAt_73 : decode cX13_takenAt 73 = .ok (.aload_n 0, 1) := by decide +kernel
theorem dX13_takenAt_74 : decode cX13_takenAt 74 = .ok (.iload_n 1, 1) := by decide +kernel
theorem dX13_takenAt_75 : decode cX13_takenAt 75 = .ok (.iconst 1, 1) := by decide +kernel
theorem dX13_takenAt_76 : decode cX13_takenAt 76 = .ok (.invokevirtual 381, 3) := by decide +kernel
theorem dX13_takenAt_79 : decode cX13_takenAt 79 = .ok (.iload_n 2, 1) := by decide +kernel
theorem dX13_takenAt_80 : decode cX13_takenAt 80 = .ok (.iload 6, 2) := by decide +kernel
theorem dX13_takenAt_82 : decode cX13_takenAt 82 = .ok (.invokevirtual 435, 3) := by decide +kernel
theorem dX13_takenAt_85 : decode cX13_takenAt 85 = .ok (.istore 6, 2) := by decide +kernel
theorem dX13_takenAt_87 : decode cX13_takenAt 87 = .ok (.iload 5, 2) := by decide +kernel
theorem dX13_takenAt_89 : decode cX13_takenAt 89 = .ok (.invokestatic 363, 3) := by decide +kernel
theorem dX13_takenAt_92 : decode cX13_takenAt 92 = .ok (.ifCond .eq 51, 3) := by decide +kernel
theorem dX13_takenAt_95 : decode cX13_takenAt 95 = .ok (.bipush 16, 2) := by decide +kernel
theorem dX13_takenAt_97 : decode cX13_takenAt 97 = .ok (.aload_n 0, 1) := by decide +kernel
theorem dX13_takenAt_98 : decode cX13_takenAt 98 = .ok (.iload_n 1, 1) := by decide +kernel
theorem dX13_takenAt_99 : decode cX13_takenAt 99 = .ok (.iconst 1, 1) := by decide +kernel
theorem dX13_takenAt_100 : decode cX13_takenAt 100 = .ok (.invokevirtual 381, 3) := by decide +kernel
theorem dX13_takenAt_103 : decode cX13_takenAt 103 = .ok (.imul, 1) := by decide +kernel
theorem dX13_takenAt_104 : decode cX13_takenAt 104 = .ok (.iload_n 2, 1) := by decide +kernel
theorem dX13_takenAt_105 : decode cX13_takenAt 105 = .ok (.iadd, 1) := by decide +kernel
theorem dX13_takenAt_106 : decode cX13_takenAt 106 = .ok (.istore 7, 2) := by decide +kernel
theorem dX13_takenAt_108 : decode cX13_takenAt 108 = .ok (.iload 6, 2) := by decide +kernel
theorem dX13_takenAt_110 : decode cX13_takenAt 110 = .ok (.aload_n 0, 1) := by decide +kernel
theorem dX13_takenAt_111 : decode cX13_takenAt 111 = .ok (.getfield 38, 3) := by decide +kernel
theorem dX13_takenAt_114 : decode cX13_takenAt 114 = .ok (.iload 7, 2) := by decide +kernel
theorem dX13_takenAt_116 : decode cX13_takenAt 116 = .ok (.iaload, 1) := by decide +kernel
theorem dX13_takenAt_117 : decode cX13_takenAt 117 = .ok (.aload_n 0, 1) := by decide +kernel
theorem dX13_takenAt_118 : decode cX13_takenAt 118 = .ok (.getfield 41, 3) := by decide +kernel
theorem dX13_takenAt_121 : decode cX13_takenAt 121 = .ok (.iload 7, 2) := by decide +kernel
theorem dX13_takenAt_123 : decode cX13_takenAt 123 = .ok (.iaload, 1) := by decide +kernel
theorem dX13_takenAt_124 : decode cX13_takenAt 124 = .ok (.invokestatic 178, 3) := by decide +kernel
theorem dX13_takenAt_127 : decode cX13_takenAt 127 = .ok (.iconst 1, 1) := by decide +kernel
theorem dX13_takenAt_128 : decode cX13_takenAt 128 = .ok (.iadd, 1) := by decide +kernel
theorem dX13_takenAt_129 : decode cX13_takenAt 129 = .ok (.iload 5, 2) := by decide +kernel
theorem dX13_takenAt_131 : decode cX13_takenAt 131 = .ok (.invokestatic 395, 3) := by decide +kernel
theorem dX13_takenAt_134 : decode cX13_takenAt 134 = .ok (.invokestatic 438, 3) := by decide +kernel
theorem dX13_takenAt_137 : decode cX13_takenAt 137 = .ok (.isub, 1) := by decide +kernel
theorem dX13_takenAt_138 : decode cX13_takenAt 138 = .ok (.invokestatic 178, 3) := by decide +kernel
theorem dX13_takenAt_141 : decode cX13_takenAt 141 = .ok (.istore 6, 2) := by decide +kernel
theorem dX13_takenAt_143 : decode cX13_takenAt 143 = .ok (.iload 5, 2) := by decide +kernel
theorem dX13_takenAt_145 : decode cX13_takenAt 145 = .ok (.invokestatic 360, 3) := by decide +kernel
theorem dX13_takenAt_148 : decode cX13_takenAt 148 = .ok (.ifCond .ne 6, 3) := by decide +kernel
theorem dX13_takenAt_151 : decode cX13_takenAt 151 = .ok (.iload 6, 2) := by decide +kernel
theorem dX13_takenAt_153 : decode cX13_takenAt 153 = .ok (.ireturn, 1) := by decide +kernel
theorem dX13_takenAt_154 : decode cX13_takenAt 154 = .ok (.aload_n 0, 1) := by decide +kernel
theorem dX13_takenAt_155 : decode cX13_takenAt 155 = .ok (.iload_n 1, 1) := by decide +kernel
theorem dX13_takenAt_156 : decode cX13_takenAt 156 = .ok (.iload_n 2, 1) := by decide +kernel
theorem dX13_takenAt_157 : decode cX13_takenAt 157 = .ok (.invokevirtual 432, 3) := by decide +kernel
theorem dX13_takenAt_160 : decode cX13_takenAt 160 = .ok (.aload_n 0, 1) := by decide +kernel
theorem dX13_takenAt_161 : decode cX13_takenAt 161 = .ok (.getfield 31, 3) := by decide +kernel
theorem dX13_takenAt_164 : decode cX13_takenAt 164 = .ok (.iconst 1, 1) := by decide +kernel
theorem dX13_takenAt_165 : decode cX13_takenAt 165 = .ok (.iaload, 1) := by decide +kernel
theorem dX13_takenAt_166 : decode cX13_takenAt 166 = .ok (.irem, 1) := by decide +kernel
theorem dX13_takenAt_167 : decode cX13_takenAt 167 = .ok (.istore 7, 2) := by decide +kernel
theorem dX13_takenAt_169 : decode cX13_takenAt 169 = .ok (.aload_n 0, 1) := by decide +kernel
theorem dX13_takenAt_170 : decode cX13_takenAt 170 = .ok (.getfield 47, 3) := by decide +kernel
theorem dX13_takenAt_173 : decode cX13_takenAt 173 = .ok (.iload 7, 2) := by decide +kernel
theorem dX13_takenAt_175 : decode cX13_takenAt 175 = .ok (.iaload, 1) := by decide +kernel
theorem dX13_takenAt_176 : decode cX13_takenAt 176 = .ok (.aload_n 0, 1) := by decide +kernel
theorem dX13_takenAt_177 : decode cX13_takenAt 177 = .ok (.getfield 31, 3) := by decide +kernel
theorem dX13_takenAt_180 : decode cX13_takenAt 180 = .ok (.iconst 2, 1) := by decide +kernel
theorem dX13_takenAt_181 : decode cX13_takenAt 181 = .ok (.iaload, 1) := by decide +kernel
theorem dX13_takenAt_182 : decode cX13_takenAt 182 = .ok (.iadd, 1) := by decide +kernel
theorem dX13_takenAt_183 : decode cX13_takenAt 183 = .ok (.istore 8, 2) := by decide +kernel
theorem dX13_takenAt_185 : decode cX13_takenAt 185 = .ok (.aload_n 0, 1) := by decide +kernel
theorem dX13_takenAt_186 : decode cX13_takenAt 186 = .ok (.dup, 1) := by decide +kernel
theorem dX13_takenAt_187 : decode cX13_takenAt 187 = .ok (.getfield 441, 3) := by decide +kernel
theorem dX13_takenAt_190 : decode cX13_takenAt 190 = .ok (.iconst 0, 1) := by decide +kernel
theorem dX13_takenAt_191 : decode cX13_takenAt 191 = .ok (.iload 8, 2) := by decide +kernel
theorem dX13_takenAt_193 : decode cX13_takenAt 193 = .ok (.iload 6, 2) := by decide +kernel
theorem dX13_takenAt_195 : decode cX13_takenAt 195 = .ok (.isub, 1) := by decide +kernel
theorem dX13_takenAt_196 : decode cX13_takenAt 196 = .ok (.invokestatic 178, 3) := by decide +kernel
theorem dX13_takenAt_199 : decode cX13_takenAt 199 = .ok (.iadd, 1) := by decide +kernel
theorem dX13_takenAt_200 : decode cX13_takenAt 200 = .ok (.putfield 441, 3) := by decide +kernel
theorem dX13_takenAt_203 : decode cX13_takenAt 203 = .ok (.iload 6, 2) := by decide +kernel
theorem dX13_takenAt_205 : decode cX13_takenAt 205 = .ok (.iload 8, 2) := by decide +kernel
theorem dX13_takenAt_207 : decode cX13_takenAt 207 = .ok (.invokestatic 178, 3) := by decide +kernel
theorem dX13_takenAt_210 : decode cX13_takenAt 210 = .ok (.istore 6, 2) := by decide +kernel
theorem dX13_takenAt_212 : decode cX13_takenAt 212 = .ok (.aload_n 0, 1) := by decide +kernel
theorem dX13_takenAt_213 : decode cX13_takenAt 213 = .ok (.getfield 47, 3) := by decide +kernel
theorem dX13_takenAt_216 : decode cX13_takenAt 216 = .ok (.iload 7, 2) := by decide +kernel
theorem dX13_takenAt_218 : decode cX13_takenAt 218 = .ok (.iload 6, 2) := by decide +kernel
theorem dX13_takenAt_220 : decode cX13_takenAt 220 = .ok (.iastore, 1) := by decide +kernel
theorem dX13_takenAt_221 : decode cX13_takenAt 221 = .ok (.iload 6, 2) := by decide +kernel
theorem dX13_takenAt_223 : decode cX13_takenAt 223 = .ok (.ireturn, 1) := by decide +kernel
def pX13_takenAt_b143 (g : MT) (this : Nat) (p1 : Int32) (p2 : Int32) (p3 : Int32) (p4 : Int32) (l5 : Int32) (l6 : Int32) (h : CT) : Option ((Int32) × CT) := if (pX13_isMemory l5) = 0 then some (l6, h) else bd (pX13_placeOf g h this p1 p2) fun x2 => (lt (hR h this 19) fun r4 => (nn r4 fun a4 => (tg g a4 20 (ix (gL g a4) 1 (dvI (hI h a4 (Int32.toNatClampNeg 1)) (lt (x2 - x2 / (hI h a4 (Int32.toNatClampNeg 1)) * (hI h a4 (Int32.toNatClampNeg 1))) fun x8 => (lt (hR h this 26) fun r9 => (nn r9 fun a9 => (tg g a9 20 (ix (gL g a9) x8 (lt (hR h this 19) fun r12 => (nn r12 fun a12 => (tg g a12 20 (ix (gL g a12) 2 (lt ((hI h a9 (Int32.toNatClampNeg x8)) + (hI h a12 (Int32.toNatClampNeg 2))) fun x15 => (lt (sI h this 35 ((hI h this 35) + (pJ9_max_7cf53 0 (x15 - l6)))) fun h16 => (lt (pJ9_max_7cf53 l6 x15) fun x17 => (lt (hR h16 this 26) fun r18 => (nn r18 fun a18 => (tg g a18 20 (ix (gL g a18) x8 (lt (sI h16 a18 (Int32.toNatClampNeg x8) x17) fun h21 => (some (x17, h21))))))))))))))))))))))))
set_option maxRecDepth 10000 in
set_option maxHeartbeats 4000000 in
theorem pX13_takenAt_b143_ok {X : Cx} {G : Gx} {dk : Nat} {g : MT} {r0 : Int32} {h0 : CT} {this : Nat} {p1 : Int32} {p2 : Int32} {p3 : Int32} {p4 : Int32} (Z : Zx X G cX13_takenAt RX13 9 dk (some .int) (some (.int r0)) g h0) (hK : 3 ≤ dk) (t0 : gT g this = 12) (l5 : Int32) (l6 : Int32) (h : CT) (hf : pX13_takenAt_b143 g this p1 p2 p3 p4 l5 l6 h = some (r0, h0)) : J X g h 143 [(0, va_rf (some this)), (1, .int p1), (2, .int p2), (5, .int l5), (6, .int l6)] [] := by
  unfold pX13_takenAt_b143 at hf
  refine J_iload Z.1 3 dX13_takenAt_143 rfl ?_
  refine J_callS (as := [.int l5]) (rest := []) (sy := [.int (pX13_isMemory l5)]) Z.1 dX13_takenAt_145 cw_X13_360 (pX13_isMemory_ok G (dk - 1) (by omega) g h l5) (zG Z) rfl (by decide) (zF Z (by omega)) (zO Z (by omega) (by decide)) (zM _) Z.2.1 Z.2.1 rfl rfl ?_
  refine J_if_ne Z.1 154 dX13_takenAt_148 (by decide) (fun c1 => ?_) (fun c1 => ?_)
  · rw [if_neg c1] at hf
    refine J_aload_n Z.1 0 dX13_takenAt_154 rfl rfl ?_
    refine J_iload_n Z.1 1 dX13_takenAt_155 rfl rfl ?_
    refine J_iload_n Z.1 2 dX13_takenAt_156 rfl rfl ?_
    obtain ⟨x2, q3, hf⟩ := bd_i hf
    refine J_callV (ci := 11) (as := [.int p1, .int p2]) (rest := []) (sy := [.int x2]) Z.1 dX13_takenAt_157 cw_X13_432 (pX13_placeOf_ok G (dk - 1) (by omega) q3) rfl rfl t0 (zG Z) rfl (by decide) (zF Z (by omega)) (zO Z (by omega) (by decide)) (zM _) Z.2.1 Z.2.1 rfl rfl ?_
    refine J_aload_n Z.1 0 dX13_takenAt_160 rfl rfl ?_
    refine J_get (v := va_rf (hR h this 19)) Z.1 dX13_takenAt_161 fl_X13_31 t0 rfl ?_
    refine J_tr (fun r4 er4 => ?_)
    replace hf := lt_i hf r4 er4
    refine J_iconst Z.1 (v := 1) (by decide) dX13_takenAt_164 ?_
    obtain ⟨a4, rfl, hf⟩ := nn_i hf
    obtain ⟨t5, hf⟩ := tg_i hf
    obtain ⟨i6, hf⟩ := ix_i hf
    refine J_iaload Z.1 dX13_takenAt_165 t5 i6 ?_
    obtain ⟨z7, hf⟩ := dvI_i hf
    refine J_irem Z.1 z7 dX13_takenAt_166 ?_
    refine J_ti (fun x8 ex8 => ?_)
    replace hf := lt_i hf x8 ex8
    refine J_istore Z.1 (lv2 := [(7, .int x8), (0, va_rf (some this)), (1, .int p1), (2, .int p2), (5, .int l5), (6, .int l6)]) dX13_takenAt_167 (zL Z (by decide)) rfl ?_
    refine J_aload_n Z.1 1 dX13_takenAt_169 rfl rfl ?_
    refine J_get (v := va_rf (hR h this 26)) Z.1 dX13_takenAt_170 fl_X13_47 t0 rfl ?_
    refine J_tr (fun r9 er9 => ?_)
    replace hf := lt_i hf r9 er9
    refine J_iload Z.1 0 dX13_takenAt_173 rfl ?_
    obtain ⟨a9, rfl, hf⟩ := nn_i hf
    obtain ⟨t10, hf⟩ := tg_i hf
    obtain ⟨i11, hf⟩ := ix_i hf
    refine J_iaload Z.1 dX13_takenAt_175 t10 i11 ?_
    refine J_aload_n Z.1 1 dX13_takenAt_176 rfl rfl ?_
    refine J_get (v := va_rf (hR h this 19)) Z.1 dX13_takenAt_177 fl_X13_31 t0 rfl ?_
    refine J_tr (fun r12 er12 => ?_)
    replace hf := lt_i hf r12 er12
    refine J_iconst Z.1 (v := 2) (by decide) dX13_takenAt_180 ?_
    obtain ⟨a12, rfl, hf⟩ := nn_i hf
    obtain ⟨t13, hf⟩ := tg_i hf
    obtain ⟨i14, hf⟩ := ix_i hf
    refine J_iaload Z.1 dX13_takenAt_181 t13 i14 ?_
    refine J_iadd Z.1 dX13_takenAt_182 ?_
    refine J_ti (fun x15 ex15 => ?_)
    replace hf := lt_i hf x15 ex15
    refine J_istore Z.1 (lv2 := [(8, .int x15), (7, .int x8), (0, va_rf (some this)), (1, .int p1), (2, .int p2), (5, .int l5), (6, .int l6)]) dX13_takenAt_183 (zL Z (by decide)) rfl ?_
    refine J_aload_n Z.1 2 dX13_takenAt_185 rfl rfl ?_
    refine J_dup Z.1 dX13_takenAt_186 rfl ?_
    refine J_get (v := .int (hI h this 35)) Z.1 dX13_takenAt_187 fl_X13_441 t0 rfl ?_
    refine J_iconst Z.1 (v := 0) (by decide) dX13_takenAt_190 ?_
    refine J_iload Z.1 0 dX13_takenAt_191 rfl ?_
    refine J_iload Z.1 6 dX13_takenAt_193 rfl ?_
    refine J_isub Z.1 dX13_takenAt_195 ?_
    refine J_callS (as := [.int 0, .int (x15 - l6)]) (rest := [.int (hI h this 35), va_rf (some this)]) (sy := [.int (pJ9_max_7cf53 0 (x15 - l6)), .int (hI h this 35), va_rf (some this)]) Z.1 dX13_takenAt_196 cw_X13_178 (pJ9_max_7cf53_ok G (dk - 1) (by omega) g h 0 (x15 - l6)) (zG Z) rfl (by simp [cat_i, cat_l, cat_d, cat_rf]) (zF Z (by omega)) (zO Z (by omega) (by decide)) (zM _) Z.2.1 Z.2.1 rfl rfl ?_
    refine J_iadd Z.1 dX13_takenAt_199 ?_
    refine J_putI Z.1 dX13_takenAt_200 fl_X13_441 (fun q => by cases q) t0 rfl rfl (congrArg Value.int (hI_s _ _ _ _)) ?_
    refine J_th (fun h16 eh16 => ?_)
    replace hf := lt_i hf h16 eh16
    refine J_iload Z.1 6 dX13_takenAt_203 rfl ?_
    refine J_iload Z.1 0 dX13_takenAt_205 rfl ?_
    refine J_callS (as := [.int l6, .int x15]) (rest := []) (sy := [.int (pJ9_max_7cf53 l6 x15)]) Z.1 dX13_takenAt_207 cw_X13_178 (pJ9_max_7cf53_ok G (dk - 1) (by omega) g h16 l6 x15) (zG Z) rfl (by decide) (zF Z (by omega)) (zO Z (by omega) (by decide)) (zM _) Z.2.1 Z.2.1 rfl rfl ?_
    refine J_ti (fun x17 ex17 => ?_)
    replace hf := lt_i hf x17 ex17
    refine J_istore Z.1 (lv2 := [(6, .int x17), (8, .int x15), (7, .int x8), (0, va_rf (some this)), (1, .int p1), (2, .int p2), (5, .int l5)]) dX13_takenAt_210 (zL Z (by decide)) rfl ?_
    refine J_aload_n Z.1 3 dX13_takenAt_212 rfl rfl ?_
    refine J_get (v := va_rf (hR h16 this 26)) Z.1 dX13_takenAt_213 fl_X13_47 t0 rfl ?_
    refine J_tr (fun r18 er18 => ?_)
    replace hf := lt_i hf r18 er18
    refine J_iload Z.1 2 dX13_takenAt_216 rfl ?_
    refine J_iload Z.1 0 dX13_takenAt_218 rfl ?_
    obtain ⟨a18, rfl, hf⟩ := nn_i hf
    obtain ⟨t19, hf⟩ := tg_i hf
    obtain ⟨i20, hf⟩ := ix_i hf
    refine J_iastore Z.1 dX13_takenAt_220 t19 i20 ?_
    refine J_th (fun h21 eh21 => ?_)
    replace hf := lt_i hf h21 eh21
    refine J_iload Z.1 0 dX13_takenAt_221 rfl ?_
    cases hf
    exact J_iret Z.1 Z.2.2.2.2.2 dX13_takenAt_223
  · rw [if_pos c1] at hf
    refine J_iload Z.1 4 dX13_takenAt_151 rfl ?_
    cases hf
    exact J_iret Z.1 Z.2.2.2.2.2 dX13_takenAt_153
def pX13_takenAt_b87 (g : MT) (this : Nat) (p1 : Int32) (p2 : Int32) (p3 : Int32) (p4 : Int32) (l5 : Int32) (l6 : Int32) (h : CT) : Option ((Int32) × CT) := if (pX13_writesD l5) = 0 then pX13_takenAt_b143 g this p1 p2 p3 p4  l5 l6 h else bd (pX13_at g h this p1 1) fun x2 => (lt ((16 * x2) + p2) fun x4 => (lt (hR h this 23) fun r5 => (nn r5 fun a5 => (tg g a5 20 (ix (gL g a5) x4 (lt (hR h this 24) fun r8 => (nn r8 fun a8 => (tg g a8 20 (ix (gL g a8) x4 (lt (pJ9_max_7cf53 l6 (((pJ9_max_7cf53 (hI h a5 (Int32.toNatClampNeg x4)) (hI h a8 (Int32.toNatClampNeg x4))) + 1) - (pX13_latencyOf (pX13_unitOf l5)))) fun x11 => (pX13_takenAt_b143 g this p1 p2 p3 p4  l5 x11 h)))))))))))
set_option maxRecDepth 10000 in
set_option maxHeartbeats 4000000 in
theorem pX13_takenAt_b87_ok {X : Cx} {G : Gx} {dk : Nat} {g : MT} {r0 : Int32} {h0 : CT} {this : Nat} {p1 : Int32} {p2 : Int32} {p3 : Int32} {p4 : Int32} (Z : Zx X G cX13_takenAt RX13 9 dk (some .int) (some (.int r0)) g h0) (hK : 3 ≤ dk) (t0 : gT g this = 12) (l5 : Int32) (l6 : Int32) (h : CT) (hf : pX13_takenAt_b87 g this p1 p2 p3 p4 l5 l6 h = some (r0, h0)) : J X g h 87 [(0, va_rf (some this)), (1, .int p1), (2, .int p2), (5, .int l5), (6, .int l6)] [] := by
  unfold pX13_takenAt_b87 at hf
  refine J_iload Z.1 3 dX13_takenAt_87 rfl ?_
  refine J_callS (as := [.int l5]) (rest := []) (sy := [.int (pX13_writesD l5)]) Z.1 dX13_takenAt_89 cw_X13_363 (pX13_writesD_ok G (dk - 1) (by omega) g h l5) (zG Z) rfl (by decide) (zF Z (by omega)) (zO Z (by omega) (by decide)) (zM _) Z.2.1 Z.2.1 rfl rfl ?_
  refine J_if_eq Z.1 143 dX13_takenAt_92 (by decide) (fun c1 => ?_) (fun c1 => ?_)
  · rw [if_pos c1] at hf
    exact pX13_takenAt_b143_ok Z hK t0  _ _ _ hf
  · rw [if_neg c1] at hf
    refine J_bipush Z.1 (v := 16) (by decide) dX13_takenAt_95 ?_
    refine J_aload_n Z.1 0 dX13_takenAt_97 rfl rfl ?_
    refine J_iload_n Z.1 1 dX13_takenAt_98 rfl rfl ?_
    refine J_iconst Z.1 (v := 1) (by decide) dX13_takenAt_99 ?_
    obtain ⟨x2, q3, hf⟩ := bd_i hf
    refine J_callV (ci := 11) (as := [.int p1, .int 1]) (rest := [.int 16]) (sy := [.int x2, .int 16]) Z.1 dX13_takenAt_100 cw_X13_381 (pX13_at_ok G (dk - 1) (by omega) q3) rfl rfl t0 (zG Z) rfl (by simp [cat_i, cat_l, cat_d, cat_rf]) (zF Z (by omega)) (zO Z (by omega) (by decide)) (zM _) Z.2.1 Z.2.1 rfl rfl ?_
    refine J_imul Z.1 dX13_takenAt_103 ?_
    refine J_iload_n Z.1 2 dX13_takenAt_104 rfl rfl ?_
    refine J_iadd Z.1 dX13_takenAt_105 ?_
    refine J_ti (fun x4 ex4 => ?_)
    replace hf := lt_i hf x4 ex4
    refine J_istore Z.1 (lv2 := [(7, .int x4), (0, va_rf (some this)), (1, .int p1), (2, .int p2), (5, .int l5), (6, .int l6)]) dX13_takenAt_106 (zL Z (by decide)) rfl ?_
    refine J_iload Z.1 5 dX13_takenAt_108 rfl ?_
    refine J_aload_n Z.1 1 dX13_takenAt_110 rfl rfl ?_
    refine J_get (v := va_rf (hR h this 23)) Z.1 dX13_takenAt_111 fl_X13_38 t0 rfl ?_
    refine J_tr (fun r5 er5 => ?_)
    replace hf := lt_i hf r5 er5
    refine J_iload Z.1 0 dX13_takenAt_114 rfl ?_
    obtain ⟨a5, rfl, hf⟩ := nn_i hf
    obtain ⟨t6, hf⟩ := tg_i hf
    obtain ⟨i7, hf⟩ := ix_i hf
    refine J_iaload Z.1 dX13_takenAt_116 t6 i7 ?_
    refine J_aload_n Z.1 1 dX13_takenAt_117 rfl rfl ?_
    refine J_get (v := va_rf (hR h this 24)) Z.1 dX13_takenAt_118 fl_X13_41 t0 rfl ?_
    refine J_tr (fun r8 er8 => ?_)
    replace hf := lt_i hf r8 er8
    refine J_iload Z.1 0 dX13_takenAt_121 rfl ?_
    obtain ⟨a8, rfl, hf⟩ := nn_i hf
    obtain ⟨t9, hf⟩ := tg_i hf
    obtain ⟨i10, hf⟩ := ix_i hf
    refine J_iaload Z.1 dX13_takenAt_123 t9 i10 ?_
    refine J_callS (as := [.int (hI h a5 (Int32.toNatClampNeg x4)), .int (hI h a8 (Int32.toNatClampNeg x4))]) (rest := [.int l6]) (sy := [.int (pJ9_max_7cf53 (hI h a5 (Int32.toNatClampNeg x4)) (hI h a8 (Int32.toNatClampNeg x4))), .int l6]) Z.1 dX13_takenAt_124 cw_X13_178 (pJ9_max_7cf53_ok G (dk - 1) (by omega) g h (hI h a5 (Int32.toNatClampNeg x4)) (hI h a8 (Int32.toNatClampNeg x4))) (zG Z) rfl (by simp [cat_i, cat_l, cat_d, cat_rf]) (zF Z (by omega)) (zO Z (by omega) (by decide)) (zM _) Z.2.1 Z.2.1 rfl rfl ?_
    refine J_iconst Z.1 (v := 1) (by decide) dX13_takenAt_127 ?_
    refine J_iadd Z.1 dX13_takenAt_128 ?_
    refine J_iload Z.1 4 dX13_takenAt_129 rfl ?_
    refine J_callS (as := [.int l5]) (rest := [.int ((pJ9_max_7cf53 (hI h a5 (Int32.toNatClampNeg x4)) (hI h a8 (Int32.toNatClampNeg x4))) + 1), .int l6]) (sy := [.int (pX13_unitOf l5), .int ((pJ9_max_7cf53 (hI h a5 (Int32.toNatClampNeg x4)) (hI h a8 (Int32.toNatClampNeg x4))) + 1), .int l6]) Z.1 dX13_takenAt_131 cw_X13_395 (pX13_unitOf_ok G (dk - 1) (by omega) g h l5) (zG Z) rfl (by simp [cat_i, cat_l, cat_d, cat_rf]) (zF Z (by omega)) (zO Z (by omega) (by decide)) (zM _) Z.2.1 Z.2.1 rfl rfl ?_
    refine J_callS (as := [.int (pX13_unitOf l5)]) (rest := [.int ((pJ9_max_7cf53 (hI h a5 (Int32.toNatClampNeg x4)) (hI h a8 (Int32.toNatClampNeg x4))) + 1), .int l6]) (sy := [.int (pX13_latencyOf (pX13_unitOf l5)), .int ((pJ9_max_7cf53 (hI h a5 (Int32.toNatClampNeg x4)) (hI h a8 (Int32.toNatClampNeg x4))) + 1), .int l6]) Z.1 dX13_takenAt_134 cw_X13_438 (pX13_latencyOf_ok G (dk - 1) (by omega) g h (pX13_unitOf l5)) (zG Z) rfl (by simp [cat_i, cat_l, cat_d, cat_rf]) (zF Z (by omega)) (zO Z (by omega) (by decide)) (zM _) Z.2.1 Z.2.1 rfl rfl ?_
    refine J_isub Z.1 dX13_takenAt_137 ?_
    refine J_callS (as := [.int l6, .int (((pJ9_max_7cf53 (hI h a5 (Int32.toNatClampNeg x4)) (hI h a8 (Int32.toNatClampNeg x4))) + 1) - (pX13_latencyOf (pX13_unitOf l5)))]) (rest := []) (sy := [.int (pJ9_max_7cf53 l6 (((pJ9_max_7cf53 (hI h a5 (Int32.toNatClampNeg x4)) (hI h a8 (Int32.toNatClampNeg x4))) + 1) - (pX13_latencyOf (pX13_unitOf l5))))]) Z.1 dX13_takenAt_138 cw_X13_178 (pJ9_max_7cf53_ok G (dk - 1) (by omega) g h l6 (((pJ9_max_7cf53 (hI h a5 (Int32.toNatClampNeg x4)) (hI h a8 (Int32.toNatClampNeg x4))) + 1) - (pX13_latencyOf (pX13_unitOf l5)))) (zG Z) rfl (by decide) (zF Z (by omega)) (zO Z (by omega) (by decide)) (zM _) Z.2.1 Z.2.1 rfl rfl ?_
    refine J_ti (fun x11 ex11 => ?_)
    replace hf := lt_i hf x11 ex11
    refine J_istore Z.1 (lv2 := [(6, .int x11), (7, .int x4), (0, va_rf (some this)), (1, .int p1), (2, .int p2), (5, .int l5)]) dX13_takenAt_141 (zL Z (by decide)) rfl ?_
    refine J_lv [2, 3, 4, 5, 0] rfl ?_
    exact pX13_takenAt_b143_ok Z hK t0  _ _ _ hf
def pX13_takenAt_b64 (g : MT) (this : Nat) (p1 : Int32) (p2 : Int32) (p3 : Int32) (p4 : Int32) (l5 : Int32) (l6 : Int32) (h : CT) : Option ((Int32) × CT) := if (pX13_readsD l5) = 0 then pX13_takenAt_b87 g this p1 p2 p3 p4  l5 l6 h else bd (pX13_at g h this p1 1) fun x2 => (bd (pX13_waitsFor g h this x2 p2 l6) fun x4 => (pX13_takenAt_b87 g this p1 p2 p3 p4  l5 x4 h))
set_option maxRecDepth 10000 in
set_option maxHeartbeats 4000000 in
theorem pX13_takenAt_b64_ok {X : Cx} {G : Gx} {dk : Nat} {g : MT} {r0 : Int32} {h0 : CT} {this : Nat} {p1 : Int32} {p2 : Int32} {p3 : Int32} {p4 : Int32} (Z : Zx X G cX13_takenAt RX13 9 dk (some .int) (some (.int r0)) g h0) (hK : 3 ≤ dk) (t0 : gT g this = 12) (l5 : Int32) (l6 : Int32) (h : CT) (hf : pX13_takenAt_b64 g this p1 p2 p3 p4 l5 l6 h = some (r0, h0)) : J X g h 64 [(0, va_rf (some this)), (1, .int p1), (2, .int p2), (5, .int l5), (6, .int l6)] [] := by
  unfold pX13_takenAt_b64 at hf
  refine J_iload Z.1 3 dX13_takenAt_64 rfl ?_
  refine J_callS (as := [.int l5]) (rest := []) (sy := [.int (pX13_readsD l5)]) Z.1 dX13_takenAt_66 cw_X13_392 (pX13_readsD_ok G (dk - 1) (by omega) g h l5) (zG Z) rfl (by decide) (zF Z (by omega)) (zO Z (by omega) (by decide)) (zM _) Z.2.1 Z.2.1 rfl rfl ?_
  refine J_if_eq Z.1 87 dX13_takenAt_69 (by decide) (fun c1 => ?_) (fun c1 => ?_)
  · rw [if_pos c1] at hf
    exact pX13_takenAt_b87_ok Z hK t0  _ _ _ hf
  · rw [if_neg c1] at hf
    refine J_aload_n Z.1 0 dX13_takenAt_72 rfl rfl ?_
    refine J_aload_n Z.1 0 dX13_takenAt_73 rfl rfl ?_
    refine J_iload_n Z.1 1 dX13_takenAt_74 rfl rfl ?_
    refine J_iconst Z.1 (v := 1) (by decide) dX13_takenAt_75 ?_
    obtain ⟨x2, q3, hf⟩ := bd_i hf
    refine J_callV (ci := 11) (as := [.int p1, .int 1]) (rest := [va_rf (some this)]) (sy := [.int x2, va_rf (some this)]) Z.1 dX13_takenAt_76 cw_X13_381 (pX13_at_ok G (dk - 1) (by omega) q3) rfl rfl t0 (zG Z) rfl (by simp [cat_i, cat_l, cat_d, cat_rf]) (zF Z (by omega)) (zO Z (by omega) (by decide)) (zM _) Z.2.1 Z.2.1 rfl rfl ?_
    refine J_iload_n Z.1 2 dX13_takenAt_79 rfl rfl ?_
    refine J_iload Z.1 4 dX13_takenAt_80 rfl ?_
    obtain ⟨x4, q5, hf⟩ := bd_i hf
    refine J_callV (ci := 11) (as := [.int x2, .int p2, .int l6]) (rest := []) (sy := [.int x4]) Z.1 dX13_takenAt_82 cw_X13_435 (pX13_waitsFor_ok G (dk - 1) (by omega) q5) rfl rfl t0 (zG Z) rfl (by decide) (zF Z (by omega)) (zO Z (by omega) (by decide)) (zM _) Z.2.1 Z.2.1 rfl rfl ?_
    refine J_istore Z.1 (lv2 := [(6, .int x4), (0, va_rf (some this)), (1, .int p1), (2, .int p2), (5, .int l5)]) dX13_takenAt_85 (zL Z (by decide)) rfl ?_
    refine J_lv [1, 2, 3, 4, 0] rfl ?_
    exact pX13_takenAt_b87_ok Z hK t0  _ _ _ hf
def pX13_takenAt_b41 (g : MT) (this : Nat) (p1 : Int32) (p2 : Int32) (p3 : Int32) (p4 : Int32) (l5 : Int32) (l6 : Int32) (h : CT) : Option ((Int32) × CT) := if (pX13_readsB l5) = 0 then pX13_takenAt_b64 g this p1 p2 p3 p4  l5 l6 h else bd (pX13_at g h this p1 3) fun x2 => (bd (pX13_waitsFor g h this x2 p2 l6) fun x4 => (pX13_takenAt_b64 g this p1 p2 p3 p4  l5 x4 h))
set_option maxRecDepth 10000 in
set_option maxHeartbeats 4000000 in
theorem pX13_takenAt_b41_ok {X : Cx} {G : Gx} {dk : Nat} {g : MT} {r0 : Int32} {h0 : CT} {this : Nat} {p1 : Int32} {p2 : Int32} {p3 : Int32} {p4 : Int32} (Z : Zx X G cX13_takenAt RX13 9 dk (some .int) (some (.int r0)) g h0) (hK : 3 ≤ dk) (t0 : gT g this = 12) (l5 : Int32) (l6 : Int32) (h : CT) (hf : pX13_takenAt_b41 g this p1 p2 p3 p4 l5 l6 h = some (r0, h0)) : J X g h 41 [(0, va_rf (some this)), (1, .int p1), (2, .int p2), (5, .int l5), (6, .int l6)] [] := by
  unfold pX13_takenAt_b41 at hf
  refine J_iload Z.1 3 dX13_takenAt_41 rfl ?_
  refine J_callS (as := [.int l5]) (rest := []) (sy := [.int (pX13_readsB l5)]) Z.1 dX13_takenAt_43 cw_X13_389 (pX13_readsB_ok G (dk - 1) (by omega) g h l5) (zG Z) rfl (by decide) (zF Z (by omega)) (zO Z (by omega) (by decide)) (zM _) Z.2.1 Z.2.1 rfl rfl ?_
  refine J_if_eq Z.1 64 dX13_takenAt_46 (by decide) (fun c1 => ?_) (fun c1 => ?_)
  · rw [if_pos c1] at hf
    exact pX13_takenAt_b64_ok Z hK t0  _ _ _ hf
  · rw [if_neg c1] at hf
    refine J_aload_n Z.1 0 dX13_takenAt_49 rfl rfl ?_
    refine J_aload_n Z.1 0 dX13_takenAt_50 rfl rfl ?_
    refine J_iload_n Z.1 1 dX13_takenAt_51 rfl rfl ?_
    refine J_iconst Z.1 (v := 3) (by decide) dX13_takenAt_52 ?_
    obtain ⟨x2, q3, hf⟩ := bd_i hf
    refine J_callV (ci := 11) (as := [.int p1, .int 3]) (rest := [va_rf (some this)]) (sy := [.int x2, va_rf (some this)]) Z.1 dX13_takenAt_53 cw_X13_381 (pX13_at_ok G (dk - 1) (by omega) q3) rfl rfl t0 (zG Z) rfl (by simp [cat_i, cat_l, cat_d, cat_rf]) (zF Z (by omega)) (zO Z (by omega) (by decide)) (zM _) Z.2.1 Z.2.1 rfl rfl ?_
    refine J_iload_n Z.1 2 dX13_takenAt_56 rfl rfl ?_
    refine J_iload Z.1 4 dX13_takenAt_57 rfl ?_
    obtain ⟨x4, q5, hf⟩ := bd_i hf
    refine J_callV (ci := 11) (as := [.int x2, .int p2, .int l6]) (rest := []) (sy := [.int x4]) Z.1 dX13_takenAt_59 cw_X13_435 (pX13_waitsFor_ok G (dk - 1) (by omega) q5) rfl rfl t0 (zG Z) rfl (by decide) (zF Z (by omega)) (zO Z (by omega) (by decide)) (zM _) Z.2.1 Z.2.1 rfl rfl ?_
    refine J_istore Z.1 (lv2 := [(6, .int x4), (0, va_rf (some this)), (1, .int p1), (2, .int p2), (5, .int l5)]) dX13_takenAt_62 (zL Z (by decide)) rfl ?_
    refine J_lv [1, 2, 3, 4, 0] rfl ?_
    exact pX13_takenAt_b64_ok Z hK t0  _ _ _ hf
def pX13_takenAt (g : MT) (h : CT) (this : Nat) (p1 : Int32) (p2 : Int32) (p3 : Int32) (p4 : Int32) : Option ((Int32) × CT) := tg g this 12 (bd (pX13_at g h this p1 0) fun x1 => (lt (pJ9_max_7cf53 p3 (p4 + 1)) fun x3 => (if (pX13_readsA x1) = 0 then pX13_takenAt_b41 g this p1 p2 p3 p4  x1 x3 h else bd (pX13_at g h this p1 2) fun x5 => (bd (pX13_waitsFor g h this x5 p2 x3) fun x7 => (pX13_takenAt_b41 g this p1 p2 p3 p4  x1 x7 h)))))
set_option maxRecDepth 10000 in
set_option maxHeartbeats 4000000 in
theorem pX13_takenAt_ok (G : Gx) (dk : Nat) (hK : 3 ≤ dk) {g : MT} {h h0 : CT} {this : Nat} {p1 : Int32} {p2 : Int32} {p3 : Int32} {p4 : Int32} {r0 : Int32} (hf : pX13_takenAt g h this p1 p2 p3 p4 = some (r0, h0)) : Ctr G dk yX13_takenAt cX13_takenAt 9 (some .int) [va_rf (some this), .int p1, .int p2, .int p3, .int p4] g h (some (.int r0)) g h0 := by
  refine Ctr.ofZ (lv := [(0, va_rf (some this)), (1, .int p1), (2, .int p2), (3, .int p3), (4, .int p4)]) (by decide +kernel) (by simp [cat_i, cat_l, cat_d, cat_rf]) rfl fun X Z => ?_
  unfold pX13_takenAt at hf
  obtain ⟨t0, hf⟩ := tg_i hf
  refine J_aload_n Z.1 0 dX13_takenAt_0 rfl rfl ?_
  refine J_iload_n Z.1 1 dX13_takenAt_1 rfl rfl ?_
  refine J_iconst Z.1 (v := 0) (by decide) dX13_takenAt_2 ?_
  obtain ⟨x1, q2, hf⟩ := bd_i hf
  refine J_callV (ci := 11) (as := [.int p1, .int 0]) (rest := []) (sy := [.int x1]) Z.1 dX13_takenAt_3 cw_X13_381 (pX13_at_ok G (dk - 1) (by omega) q2) rfl rfl t0 (zG Z) rfl (by decide) (zF Z (by omega)) (zO Z (by omega) (by decide)) (zM _) Z.2.1 Z.2.1 rfl rfl ?_
  refine J_istore Z.1 (lv2 := [(5, .int x1), (0, va_rf (some this)), (1, .int p1), (2, .int p2), (3, .int p3), (4, .int p4)]) dX13_takenAt_6 (zL Z (by decide)) rfl ?_
  refine J_iload_n Z.1 4 dX13_takenAt_8 rfl rfl ?_
  refine J_iload Z.1 5 dX13_takenAt_9 rfl ?_
  refine J_iconst Z.1 (v := 1) (by decide) dX13_takenAt_11 ?_
  refine J_iadd Z.1 dX13_takenAt_12 ?_
  refine J_callS (as := [.int p3, .int (p4 + 1)]) (rest := []) (sy := [.int (pJ9_max_7cf53 p3 (p4 + 1))]) Z.1 dX13_takenAt_13 cw_X13_178 (pJ9_max_7cf53_ok G (dk - 1) (by omega) g h p3 (p4 + 1)) (zG Z) rfl (by decide) (zF Z (by omega)) (zO Z (by omega) (by decide)) (zM _) Z.2.1 Z.2.1 rfl rfl ?_
  refine J_ti (fun x3 ex3 => ?_)
  replace hf := lt_i hf x3 ex3
  refine J_istore Z.1 (lv2 := [(6, .int x3), (5, .int x1), (0, va_rf (some this)), (1, .int p1), (2, .int p2), (3, .int p3), (4, .int p4)]) dX13_takenAt_16 (zL Z (by decide)) rfl ?_
  refine J_iload Z.1 1 dX13_takenAt_18 rfl ?_
  refine J_callS (as := [.int x1]) (rest := []) (sy := [.int (pX13_readsA x1)]) Z.1 dX13_takenAt_20 cw_X13_383 (pX13_readsA_ok G (dk - 1) (by omega) g h x1) (zG Z) rfl (by decide) (zF Z (by omega)) (zO Z (by omega) (by decide)) (zM _) Z.2.1 Z.2.1 rfl rfl ?_
  refine J_if_eq Z.1 41 dX13_takenAt_23 (by decide) (fun c4 => ?_) (fun c4 => ?_)
  · rw [if_pos c4] at hf
    refine J_lv [2, 3, 4, 1, 0] rfl ?_
    exact pX13_takenAt_b41_ok Z hK t0  _ _ _ hf
  · rw [if_neg c4] at hf
    refine J_aload_n Z.1 2 dX13_takenAt_26 rfl rfl ?_
    refine J_aload_n Z.1 2 dX13_takenAt_27 rfl rfl ?_
    refine J_iload_n Z.1 3 dX13_takenAt_28 rfl rfl ?_
    refine J_iconst Z.1 (v := 2) (by decide) dX13_takenAt_29 ?_
    obtain ⟨x5, q6, hf⟩ := bd_i hf
    refine J_callV (ci := 11) (as := [.int p1, .int 2]) (rest := [va_rf (some this)]) (sy := [.int x5, va_rf (some this)]) Z.1 dX13_takenAt_30 cw_X13_381 (pX13_at_ok G (dk - 1) (by omega) q6) rfl rfl t0 (zG Z) rfl (by simp [cat_i, cat_l, cat_d, cat_rf]) (zF Z (by omega)) (zO Z (by omega) (by decide)) (zM _) Z.2.1 Z.2.1 rfl rfl ?_
    refine J_iload_n Z.1 4 dX13_takenAt_33 rfl rfl ?_
    refine J_iload Z.1 0 dX13_takenAt_34 rfl ?_
    obtain ⟨x7, q8, hf⟩ := bd_i hf
    refine J_callV (ci := 11) (as := [.int x5, .int p2, .int x3]) (rest := []) (sy := [.int x7]) Z.1 dX13_takenAt_36 cw_X13_435 (pX13_waitsFor_ok G (dk - 1) (by omega) q8) rfl rfl t0 (zG Z) rfl (by decide) (zF Z (by omega)) (zO Z (by omega) (by decide)) (zM _) Z.2.1 Z.2.1 rfl rfl ?_
    refine J_istore Z.1 (lv2 := [(6, .int x7), (5, .int x1), (0, va_rf (some this)), (1, .int p1), (2, .int p2), (3, .int p3), (4, .int p4)]) dX13_takenAt_39 (zL Z (by decide)) rfl ?_
    refine J_lv [2, 3, 4, 1, 0] rfl ?_
    exact pX13_takenAt_b41_ok Z hK t0  _ _ _ hf
theorem dX13_reads_0 : decode cX13_reads 0 = .ok (.aload_n 0, 1) := by decide +kernel
theorem dX13_reads_1 : decode cX13_reads 1 = .ok (.getfield 41, 3) := by decide +kernel
theorem dX13_reads_4 : decode cX13_reads 4 = .ok (.bipush 16, 2) := by decide +kernel
theorem dX13_reads_6 : decode cX13_reads 6 = .ok (.iload_n 1, 1) := by decide +kernel
theorem dX13_reads_7 : decode cX13_reads 7 = .ok (.imul, 1) := by decide +kernel
theorem dX13_reads_8 : decode cX13_reads 8 = .ok (.iload_n 2, 1) := by decide +kernel
theorem dX13_reads_9 : decode cX13_reads 9 = .ok (.iadd, 1) := by decide +kernel
theorem dX13_reads_10 : decode cX13_reads 10 = .ok (.aload_n 0, 1) := by decide +kernel
theorem dX13_reads_11 : decode cX13_reads 11 = .ok (.getfield 41, 3) := by decide +kernel
theorem dX13_reads_14 : decode cX13_reads 14 = .ok (.bipush 16, 2) := by decide +kernel
theorem dX13_reads_16 : decode cX13_reads 16 = .ok (.iload_n 1, 1) := by decide +kernel
theorem dX13_reads_17 : decode cX13_reads 17 = .ok (.imul, 1) := by decide +kernel
theorem dX13_reads_18 : decode cX13_reads 18 = .ok (.iload_n 2, 1) := by decide +kernel
theorem dX13_reads_19 : decode cX13_reads 19 = .ok (.iadd, 1) := by decide +kernel
theorem dX13_reads_20 : decode cX13_reads 20 = .ok (.iaload, 1) := by decide +kernel
theorem dX13_reads_21 : decode cX13_reads 21 = .ok (.iload_n 3, 1) := by decide +kernel
theorem dX13_reads_22 : decode cX13_reads 22 = .ok (.invokestatic 178, 3) := by decide +kernel
theorem dX13_reads_25 : decode cX13_reads 25 = .ok (.iastore, 1) := by decide +kernel
theorem dX13_reads_26 : decode cX13_reads 26 = .ok (.return_, 1) := by decide +kernel
def pX13_reads (g : MT) (h : CT) (this : Nat) (p1 : Int32) (p2 : Int32) (p3 : Int32) : Option CT := tg g this 12 (lt (hR h this 24) fun r1 => (lt (hR h this 24) fun r2 => (nn r2 fun a2 => (tg g a2 20 (ix (gL g a2) ((16 * p1) + p2) (nn r1 fun a1 => (tg g a1 20 (ix (gL g a1) ((16 * p1) + p2) (lt (sI h a1 (Int32.toNatClampNeg ((16 * p1) + p2)) (pJ9_max_7cf53 (hI h a2 (Int32.toNatClampNeg ((16 * p1) + p2))) p3)) fun h7 => (some h7))))))))))
set_option maxRecDepth 10000 in
set_option maxHeartbeats 4000000 in
theorem pX13_reads_ok (G : Gx) (dk : Nat) (hK : 1 ≤ dk) {g : MT} {h h0 : CT} {this : Nat} {p1 : Int32} {p2 : Int32} {p3 : Int32} (hf : pX13_reads g h this p1 p2 p3 = some h0) : Ctr G dk yX13_reads cX13_reads 4 none [va_rf (some this), .int p1, .int p2, .int p3] g h none g h0 := by
  refine Ctr.ofZ (lv := [(0, va_rf (some this)), (1, .int p1), (2, .int p2), (3, .int p3)]) (by decide +kernel) (by simp [cat_i, cat_l, cat_d, cat_rf]) rfl fun X Z => ?_
  unfold pX13_reads at hf
  obtain ⟨t0, hf⟩ := tg_i hf
  refine J_aload_n Z.1 0 dX13_reads_0 rfl rfl ?_
  refine J_get (v := va_rf (hR h this 24)) Z.1 dX13_reads_1 fl_X13_41 t0 rfl ?_
  refine J_tr (fun r1 er1 => ?_)
  replace hf := lt_i hf r1 er1
  refine J_bipush Z.1 (v := 16) (by decide) dX13_reads_4 ?_
  refine J_iload_n Z.1 1 dX13_reads_6 rfl rfl ?_
  refine J_imul Z.1 dX13_reads_7 ?_
  refine J_iload_n Z.1 2 dX13_reads_8 rfl rfl ?_
  refine J_iadd Z.1 dX13_reads_9 ?_
  refine J_aload_n Z.1 0 dX13_reads_10 rfl rfl ?_
  refine J_get (v := va_rf (hR h this 24)) Z.1 dX13_reads_11 fl_X13_41 t0 rfl ?_
  refine J_tr (fun r2 er2 => ?_)
  replace hf := lt_i hf r2 er2
  refine J_bipush Z.1 (v := 16) (by decide) dX13_reads_14 ?_
  refine J_iload_n Z.1 1 dX13_reads_16 rfl rfl ?_
  refine J_imul Z.1 dX13_reads_17 ?_
  refine J_iload_n Z.1 2 dX13_reads_18 rfl rfl ?_
  refine J_iadd Z.1 dX13_reads_19 ?_
  obtain ⟨a2, rfl, hf⟩ := nn_i hf
  obtain ⟨t3, hf⟩ := tg_i hf
  obtain ⟨i4, hf⟩ := ix_i hf
  refine J_iaload Z.1 dX13_reads_20 t3 i4 ?_
  refine J_iload_n Z.1 3 dX13_reads_21 rfl rfl ?_
  refine J_callS (as := [.int (hI h a2 (Int32.toNatClampNeg ((16 * p1) + p2))), .int p3]) (rest := [.int ((16 * p1) + p2), va_rf r1]) (sy := [.int (pJ9_max_7cf53 (hI h a2 (Int32.toNatClampNeg ((16 * p1) + p2))) p3), .int ((16 * p1) + p2), va_rf r1]) Z.1 dX13_reads_22 cw_X13_178 (pJ9_max_7cf53_ok G (dk - 1) (by omega) g h (hI h a2 (Int32.toNatClampNeg ((16 * p1) + p2))) p3) (zG Z) rfl (by simp [cat_i, cat_l, cat_d, cat_rf]) (zF Z (by omega)) (zO Z (by omega) (by decide)) (zM _) Z.2.1 Z.2.1 rfl rfl ?_
  obtain ⟨a1, rfl, hf⟩ := nn_i hf
  obtain ⟨t5, hf⟩ := tg_i hf
  obtain ⟨i6, hf⟩ := ix_i hf
  refine J_iastore Z.1 dX13_reads_25 t5 i6 ?_
  refine J_th (fun h7 eh7 => ?_)
  replace hf := lt_i hf h7 eh7
  cases hf
  exact J_vret Z.1 Z.2.2.2.2.2 dX13_reads_26
theorem dX13_readsAll_0 : decode cX13_readsAll 0 = .ok (.aload_n 0, 1) := by decide +kernel
theorem dX13_readsAll_1 : decode cX13_readsAll 1 = .ok (.iload_n 1, 1) := by decide +kernel
theorem dX13_readsAll_2 : decode cX13_readsAll 2 = .ok (.iconst 0, 1) := by decide +kernel
theorem dX13_readsAll_3 : decode cX13_readsAll 3 = .ok (.invokevirtual 381, 3) := by decide +kernel
theorem dX13_readsAll_6 : decode cX13_readsAll 6 = .ok (.istore 4, 2) := by decide +kernel
theorem dX13_readsAll_8 : decode cX13_readsAll 8 = .ok (.iload 4, 2) := by decide +kernel
theorem dX13_readsAll_10 : decode cX13_readsAll 10 = .ok (.invokestatic 383, 3) := by decide +kernel
theorem dX13_readsAll_13 : decode cX13_readsAll 13 = .ok (.ifCond .eq 15, 3) := by decide +kernel
theorem dX13_readsAll_16 : decode cX13_readsAll 16 = .ok (.aload_n 0, 1) := by decide +kernel
theorem dX13_readsAll_17 : decode cX13_readsAll 17 = .ok (.aload_n 0, 1) := by decide +kernel
theorem dX13_readsAll_18 : decode cX13_readsAll 18 = .ok (.iload_n 1, 1) := by decide +kernel
theorem dX13_readsAll_19 : decode cX13_readsAll 19 = .ok (.iconst 2, 1) := by decide +kernel
theorem dX13_readsAll_20 : decode cX13_readsAll 20 = .ok (.invokevirtual 381, 3) := by decide +kernel
theorem dX13_readsAll_23 : decode cX13_readsAll 23 = .ok (.iload_n 2, 1) := by decide +kernel
theorem dX13_readsAll_24 : decode cX13_readsAll 24 = .ok (.iload_n 3, 1) := by decide +kernel
theorem dX13_readsAll_25 : decode cX13_readsAll 25 = .ok (.invokevirtual 444, 3) := by decide +kernel
theorem dX13_readsAll_28 : decode cX13_readsAll 28 = .ok (.iload 4, 2) := by decide +kernel
theorem dX13_readsAll_30 : decode cX13_readsAll 30 = .ok (.invokestatic 389, 3) := by decide +kernel
theorem dX13_readsAll_33 : decode cX13_readsAll 33 = .ok (.ifCond .eq 15, 3) := by decide +kernel
theorem dX13_readsAll_36 : decode cX13_readsAll 36 = .ok (.aload_n 0, 1) := by decide +kernel
theorem dX13_readsAll_37 : decode cX13_readsAll 37 = .ok (.aload_n 0, 1) := by decide +kernel
theorem dX13_readsAll_38 : decode cX13_readsAll 38 = .ok (.iload_n 1, 1) := by decide +kernel
theorem dX13_readsAll_39 : decode cX13_readsAll 39 = .ok (.iconst 3, 1) := by decide +kernel
theorem dX13_readsAll_40 : decode cX13_readsAll 40 = .ok (.invokevirtual 381, 3) := by decide +kernel
theorem dX13_readsAll_43 : decode cX13_readsAll 43 = .ok (.iload_n 2, 1) := by decide +kernel
theorem dX13_readsAll_44 : decode cX13_readsAll 44 = .ok (.iload_n 3, 1) := by decide +kernel
theorem dX13_readsAll_45 : decode cX13_readsAll 45 = .ok (.invokevirtual 444, 3) := by decide +kernel
theorem dX13_readsAll_48 : decode cX13_readsAll 48 = .ok (.iload 4, 2) := by decide +kernel
theorem dX13_readsAll_50 : decode cX13_readsAll 50 = .ok (.invokestatic 392, 3) := by decide +kernel
theorem dX13_readsAll_53 : decode cX13_readsAll 53 = .ok (.ifCond .eq 15, 3) := by decide +kernel
theorem dX13_readsAll_56 : decode cX13_readsAll 56 = .ok (.aload_n 0, 1) := by decide +kernel
theorem dX13_readsAll_57 : decode cX13_readsAll 57 = .ok (.aload_n 0, 1) := by decide +kernel
theorem dX13_readsAll_58 : decode cX13_readsAll 58 = .ok (.iload_n 1, 1) := by decide +kernel
theorem dX13_readsAll_59 : decode cX13_readsAll 59 = .ok (.iconst 1, 1) := by decide +kernel
theorem dX13_readsAll_60 : decode cX13_readsAll 60 = .ok (.invokevirtual 381, 3) := by decide +kernel
theorem dX13_readsAll_63 : decode cX13_readsAll 63 = .ok (.iload_n 2, 1) := by decide +kernel
theorem dX13_readsAll_64 : decode cX13_readsAll 64 = .ok (.iload_n 3, 1) := by decide +kernel
theorem dX13_readsAll_65 : decode cX13_readsAll 65 = .ok (.invokevirtual 444, 3) := by decide +kernel
theorem dX13_readsAll_68 : decode cX13_readsAll 68 = .ok (.return_, 1) := by decide +kernel
def pX13_readsAll_b48 (g : MT) (this : Nat) (p1 : Int32) (p2 : Int32) (p3 : Int32) (l4 : Int32) (h : CT) : Option CT := if (pX13_readsD l4) = 0 then some h else bd (pX13_at g h this p1 1) fun x2 => (bd (pX13_reads g h this x2 p2 p3) fun h4 => (some h4))
set_option maxRecDepth 10000 in
set_option maxHeartbeats 4000000 in
theorem pX13_readsAll_b48_ok {X : Cx} {G : Gx} {dk : Nat} {g : MT} {h0 : CT} {this : Nat} {p1 : Int32} {p2 : Int32} {p3 : Int32} (Z : Zx X G cX13_readsAll RX13 5 dk none none g h0) (hK : 2 ≤ dk) (t0 : gT g this = 12) (l4 : Int32) (h : CT) (hf : pX13_readsAll_b48 g this p1 p2 p3 l4 h = some h0) : J X g h 48 [(0, va_rf (some this)), (1, .int p1), (2, .int p2), (3, .int p3), (4, .int l4)] [] := by
  unfold pX13_readsAll_b48 at hf
  refine J_iload Z.1 4 dX13_readsAll_48 rfl ?_
  refine J_callS (as := [.int l4]) (rest := []) (sy := [.int (pX13_readsD l4)]) Z.1 dX13_readsAll_50 cw_X13_392 (pX13_readsD_ok G (dk - 1) (by omega) g h l4) (zG Z) rfl (by decide) (zF Z (by omega)) (zO Z (by omega) (by decide)) (zM _) Z.2.1 Z.2.1 rfl rfl ?_
  refine J_if_eq Z.1 68 dX13_readsAll_53 (by decide) (fun c1 => ?_) (fun c1 => ?_)
  · rw [if_pos c1] at hf
    cases hf
    exact J_vret Z.1 Z.2.2.2.2.2 dX13_readsAll_68
  · rw [if_neg c1] at hf
    refine J_aload_n Z.1 0 dX13_readsAll_56 rfl rfl ?_
    refine J_aload_n Z.1 0 dX13_readsAll_57 rfl rfl ?_
    refine J_iload_n Z.1 1 dX13_readsAll_58 rfl rfl ?_
    refine J_iconst Z.1 (v := 1) (by decide) dX13_readsAll_59 ?_
    obtain ⟨x2, q3, hf⟩ := bd_i hf
    refine J_callV (ci := 11) (as := [.int p1, .int 1]) (rest := [va_rf (some this)]) (sy := [.int x2, va_rf (some this)]) Z.1 dX13_readsAll_60 cw_X13_381 (pX13_at_ok G (dk - 1) (by omega) q3) rfl rfl t0 (zG Z) rfl (by simp [cat_i, cat_l, cat_d, cat_rf]) (zF Z (by omega)) (zO Z (by omega) (by decide)) (zM _) Z.2.1 Z.2.1 rfl rfl ?_
    refine J_iload_n Z.1 2 dX13_readsAll_63 rfl rfl ?_
    refine J_iload_n Z.1 3 dX13_readsAll_64 rfl rfl ?_
    obtain ⟨h4, q5, hf⟩ := bd_i hf
    refine J_callV (ci := 11) (as := [.int x2, .int p2, .int p3]) (rest := []) (sy := []) Z.1 dX13_readsAll_65 cw_X13_444 (pX13_reads_ok G (dk - 1) (by omega) q5) rfl rfl t0 (zG Z) rfl (by decide) (zF Z (by omega)) (zO Z (by omega) (by decide)) (zM _) Z.2.1 Z.2.1 rfl rfl ?_
    cases hf
    exact J_vret Z.1 Z.2.2.2.2.2 dX13_readsAll_68
def pX13_readsAll_b28 (g : MT) (this : Nat) (p1 : Int32) (p2 : Int32) (p3 : Int32) (l4 : Int32) (h : CT) : Option CT := if (pX13_readsB l4) = 0 then pX13_readsAll_b48 g this p1 p2 p3  l4 h else bd (pX13_at g h this p1 3) fun x2 => (bd (pX13_reads g h this x2 p2 p3) fun h4 => (pX13_readsAll_b48 g this p1 p2 p3  l4 h4))
set_option maxRecDepth 10000 in
set_option maxHeartbeats 4000000 in
theorem pX13_readsAll_b28_ok {X : Cx} {G : Gx} {dk : Nat} {g : MT} {h0 : CT} {this : Nat} {p1 : Int32} {p2 : Int32} {p3 : Int32} (Z : Zx X G cX13_readsAll RX13 5 dk none none g h0) (hK : 2 ≤ dk) (t0 : gT g this = 12) (l4 : Int32) (h : CT) (hf : pX13_readsAll_b28 g this p1 p2 p3 l4 h = some h0) : J X g h 28 [(0, va_rf (some this)), (1, .int p1), (2, .int p2), (3, .int p3), (4, .int l4)] [] := by
  unfold pX13_readsAll_b28 at hf
  refine J_iload Z.1 4 dX13_readsAll_28 rfl ?_
  refine J_callS (as := [.int l4]) (rest := []) (sy := [.int (pX13_readsB l4)]) Z.1 dX13_readsAll_30 cw_X13_389 (pX13_readsB_ok G (dk - 1) (by omega) g h l4) (zG Z) rfl (by decide) (zF Z (by omega)) (zO Z (by omega) (by decide)) (zM _) Z.2.1 Z.2.1 rfl rfl ?_
  refine J_if_eq Z.1 48 dX13_readsAll_33 (by decide) (fun c1 => ?_) (fun c1 => ?_)
  · rw [if_pos c1] at hf
    exact pX13_readsAll_b48_ok Z hK t0  _ _ hf
  · rw [if_neg c1] at hf
    refine J_aload_n Z.1 0 dX13_readsAll_36 rfl rfl ?_
    refine J_aload_n Z.1 0 dX13_readsAll_37 rfl rfl ?_
    refine J_iload_n Z.1 1 dX13_readsAll_38 rfl rfl ?_
    refine J_iconst Z.1 (v := 3) (by decide) dX13_readsAll_39 ?_
    obtain ⟨x2, q3, hf⟩ := bd_i hf
    refine J_callV (ci := 11) (as := [.int p1, .int 3]) (rest := [va_rf (some this)]) (sy := [.int x2, va_rf (some this)]) Z.1 dX13_readsAll_40 cw_X13_381 (pX13_at_ok G (dk - 1) (by omega) q3) rfl rfl t0 (zG Z) rfl (by simp [cat_i, cat_l, cat_d, cat_rf]) (zF Z (by omega)) (zO Z (by omega) (by decide)) (zM _) Z.2.1 Z.2.1 rfl rfl ?_
    refine J_iload_n Z.1 2 dX13_readsAll_43 rfl rfl ?_
    refine J_iload_n Z.1 3 dX13_readsAll_44 rfl rfl ?_
    obtain ⟨h4, q5, hf⟩ := bd_i hf
    refine J_callV (ci := 11) (as := [.int x2, .int p2, .int p3]) (rest := []) (sy := []) Z.1 dX13_readsAll_45 cw_X13_444 (pX13_reads_ok G (dk - 1) (by omega) q5) rfl rfl t0 (zG Z) rfl (by decide) (zF Z (by omega)) (zO Z (by omega) (by decide)) (zM _) Z.2.1 Z.2.1 rfl rfl ?_
    exact pX13_readsAll_b48_ok Z hK t0  _ _ hf
def pX13_readsAll (g : MT) (h : CT) (this : Nat) (p1 : Int32) (p2 : Int32) (p3 : Int32) : Option CT := tg g this 12 (bd (pX13_at g h this p1 0) fun x1 => (if (pX13_readsA x1) = 0 then pX13_readsAll_b28 g this p1 p2 p3  x1 h else bd (pX13_at g h this p1 2) fun x4 => (bd (pX13_reads g h this x4 p2 p3) fun h6 => (pX13_readsAll_b28 g this p1 p2 p3  x1 h6))))
set_option maxRecDepth 10000 in
set_option maxHeartbeats 4000000 in
theorem pX13_readsAll_ok (G : Gx) (dk : Nat) (hK : 2 ≤ dk) {g : MT} {h h0 : CT} {this : Nat} {p1 : Int32} {p2 : Int32} {p3 : Int32} (hf : pX13_readsAll g h this p1 p2 p3 = some h0) : Ctr G dk yX13_readsAll cX13_readsAll 5 none [va_rf (some this), .int p1, .int p2, .int p3] g h none g h0 := by
  refine Ctr.ofZ (lv := [(0, va_rf (some this)), (1, .int p1), (2, .int p2), (3, .int p3)]) (by decide +kernel) (by simp [cat_i, cat_l, cat_d, cat_rf]) rfl fun X Z => ?_
  unfold pX13_readsAll at hf
  obtain ⟨t0, hf⟩ := tg_i hf
  refine J_aload_n Z.1 0 dX13_readsAll_0 rfl rfl ?_
  refine J_iload_n Z.1 1 dX13_readsAll_1 rfl rfl ?_
  refine J_iconst Z.1 (v := 0) (by decide) dX13_readsAll_2 ?_
  obtain ⟨x1, q2, hf⟩ := bd_i hf
  refine J_callV (ci := 11) (as := [.int p1, .int 0]) (rest := []) (sy := [.int x1]) Z.1 dX13_readsAll_3 cw_X13_381 (pX13_at_ok G (dk - 1) (by omega) q2) rfl rfl t0 (zG Z) rfl (by decide) (zF Z (by omega)) (zO Z (by omega) (by decide)) (zM _) Z.2.1 Z.2.1 rfl rfl ?_
  refine J_istore Z.1 (lv2 := [(4, .int x1), (0, va_rf (some this)), (1, .int p1), (2, .int p2), (3, .int p3)]) dX13_readsAll_6 (zL Z (by decide)) rfl ?_
  refine J_iload Z.1 0 dX13_readsAll_8 rfl ?_
  refine J_callS (as := [.int x1]) (rest := []) (sy := [.int (pX13_readsA x1)]) Z.1 dX13_readsAll_10 cw_X13_383 (pX13_readsA_ok G (dk - 1) (by omega) g h x1) (zG Z) rfl (by decide) (zF Z (by omega)) (zO Z (by omega) (by decide)) (zM _) Z.2.1 Z.2.1 rfl rfl ?_
  refine J_if_eq Z.1 28 dX13_readsAll_13 (by decide) (fun c3 => ?_) (fun c3 => ?_)
  · rw [if_pos c3] at hf
    refine J_lv [1, 2, 3, 4, 0] rfl ?_
    exact pX13_readsAll_b28_ok Z hK t0  _ _ hf
  · rw [if_neg c3] at hf
    refine J_aload_n Z.1 1 dX13_readsAll_16 rfl rfl ?_
    refine J_aload_n Z.1 1 dX13_readsAll_17 rfl rfl ?_
    refine J_iload_n Z.1 2 dX13_readsAll_18 rfl rfl ?_
    refine J_iconst Z.1 (v := 2) (by decide) dX13_readsAll_19 ?_
    obtain ⟨x4, q5, hf⟩ := bd_i hf
    refine J_callV (ci := 11) (as := [.int p1, .int 2]) (rest := [va_rf (some this)]) (sy := [.int x4, va_rf (some this)]) Z.1 dX13_readsAll_20 cw_X13_381 (pX13_at_ok G (dk - 1) (by omega) q5) rfl rfl t0 (zG Z) rfl (by simp [cat_i, cat_l, cat_d, cat_rf]) (zF Z (by omega)) (zO Z (by omega) (by decide)) (zM _) Z.2.1 Z.2.1 rfl rfl ?_
    refine J_iload_n Z.1 3 dX13_readsAll_23 rfl rfl ?_
    refine J_iload_n Z.1 4 dX13_readsAll_24 rfl rfl ?_
    obtain ⟨h6, q7, hf⟩ := bd_i hf
    refine J_callV (ci := 11) (as := [.int x4, .int p2, .int p3]) (rest := []) (sy := []) Z.1 dX13_readsAll_25 cw_X13_444 (pX13_reads_ok G (dk - 1) (by omega) q7) rfl rfl t0 (zG Z) rfl (by decide) (zF Z (by omega)) (zO Z (by omega) (by decide)) (zM _) Z.2.1 Z.2.1 rfl rfl ?_
    refine J_lv [1, 2, 3, 4, 0] rfl ?_
    exact pX13_readsAll_b28_ok Z hK t0  _ _ hf
theorem dX13_reckoned_0 : decode cX13_reckoned 0 = .ok (.iload_n 0, 1) := by decide +kernel
theorem dX13_reckoned_1 : decode cX13_reckoned 1 = .ok (.bipush 7, 2) := by decide +kernel
theorem dX13_reckoned_3 : decode cX13_reckoned 3 = .ok (.if_icmp .ne 7, 3) := by decide +kernel
theorem dX13_reckoned_6 : decode cX13_reckoned 6 = .ok (.dload_n 1, 1) := by decide +kernel
theorem dX13_reckoned_7 : decode cX13_reckoned 7 = .ok (.dload_n 3, 1) := by decide +kernel
theorem dX13_reckoned_8 : decode cX13_reckoned 8 = .ok (.dadd, 1) := by decide +kernel
theorem dX13_reckoned_9 : decode cX13_reckoned 9 = .ok (.dreturn, 1) := by decide +kernel
theorem dX13_reckoned_10 : decode cX13_reckoned 10 = .ok (.iload_n 0, 1) := by decide +kernel
theorem dX13_reckoned_11 : decode cX13_reckoned 11 = .ok (.bipush 8, 2) := by decide +kernel
theorem dX13_reckoned_13 : decode cX13_reckoned 13 = .ok (.if_icmp .ne 7, 3) := by decide +kernel
theorem dX13_reckoned_16 : decode cX13_reckoned 16 = .ok (.dload_n 1, 1) := by decide +kernel
theorem dX13_reckoned_17 : decode cX13_reckoned 17 = .ok (.dload_n 3, 1) := by decide +kernel
theorem dX13_reckoned_18 : decode cX13_reckoned 18 = .ok (.dsub, 1) := by decide +kernel
theorem dX13_reckoned_19 : decode cX13_reckoned 19 = .ok (.dreturn, 1) := by decide +kernel
theorem dX13_reckoned_20 : decode cX13_reckoned 20 = .ok (.iload_n 0, 1) := by decide +kernel
theorem dX13_reckoned_21 : decode cX13_reckoned 21 = .ok (.bipush 9, 2) := by decide +kernel
theorem dX13_reckoned_23 : decode cX13_reckoned 23 = .ok (.if_icmp .ne 7, 3) := by decide +kernel
theorem dX13_reckoned_26 : decode cX13_reckoned 26 = .ok (.dload_n 1, 1) := by decide +kernel
theorem dX13_reckoned_27 : decode cX13_reckoned 27 = .ok (.dload_n 3, 1) := by decide +kernel
theorem dX13_reckoned_28 : decode cX13_reckoned 28 = .ok (.dmul, 1) := by decide +kernel
theorem dX13_reckoned_29 : decode cX13_reckoned 29 = .ok (.dreturn, 1) := by decide +kernel
theorem dX13_reckoned_30 : decode cX13_reckoned 30 = .ok (.iload_n 0, 1) := by decide +kernel
theorem dX13_reckoned_31 : decode cX13_reckoned 31 = .ok (.bipush 10, 2) := by decide +kernel
theorem dX13_reckoned_33 : decode cX13_reckoned 33 = .ok (.if_icmp .ne 7, 3) := by decide +kernel
theorem dX13_reckoned_36 : decode cX13_reckoned 36 = .ok (.dload_n 1, 1) := by decide +kernel
theorem dX13_reckoned_37 : decode cX13_reckoned 37 = .ok (.dload_n 3, 1) := by decide +kernel
theorem dX13_reckoned_38 : decode cX13_reckoned 38 = .ok (.ddiv, 1) := by decide +kernel
theorem dX13_reckoned_39 : decode cX13_reckoned 39 = .ok (.dreturn, 1) := by decide +kernel
theorem dX13_reckoned_40 : decode cX13_reckoned 40 = .ok (.iload_n 0, 1) := by decide +kernel
theorem dX13_reckoned_41 : decode cX13_reckoned 41 = .ok (.bipush 11, 2) := by decide +kernel
theorem dX13_reckoned_43 : decode cX13_reckoned 43 = .ok (.if_icmp .ne 7, 3) := by decide +kernel
theorem dX13_reckoned_46 : decode cX13_reckoned 46 = .ok (.dload_n 1, 1) := by decide +kernel
theorem dX13_reckoned_47 : decode cX13_reckoned 47 = .ok (.dload_n 3, 1) := by decide +kernel
theorem dX13_reckoned_48 : decode cX13_reckoned 48 = .ok (.drem, 1) := by decide +kernel
theorem dX13_reckoned_49 : decode cX13_reckoned 49 = .ok (.dreturn, 1) := by decide +kernel
theorem dX13_reckoned_50 : decode cX13_reckoned 50 = .ok (.iload_n 0, 1) := by decide +kernel
theorem dX13_reckoned_51 : decode cX13_reckoned 51 = .ok (.bipush 12, 2) := by decide +kernel
theorem dX13_reckoned_53 : decode cX13_reckoned 53 = .ok (.if_icmp .ne 9, 3) := by decide +kernel
theorem dX13_reckoned_56 : decode cX13_reckoned 56 = .ok (.dload_n 1, 1) := by decide +kernel
theorem dX13_reckoned_57 : decode cX13_reckoned 57 = .ok (.dload_n 3, 1) := by decide +kernel
theorem dX13_reckoned_58 : decode cX13_reckoned 58 = .ok (.invokestatic 447, 3) := by decide +kernel
theorem dX13_reckoned_61 : decode cX13_reckoned 61 = .ok (.dreturn, 1) := by decide +kernel
theorem dX13_reckoned_62 : decode cX13_reckoned 62 = .ok (.iload_n 0, 1) := by decide +kernel
theorem dX13_reckoned_63 : decode cX13_reckoned 63 = .ok (.bipush 13, 2) := by decide +kernel
theorem dX13_reckoned_65 : decode cX13_reckoned 65 = .ok (.if_icmp .ne 9, 3) := by decide +kernel
theorem dX13_reckoned_68 : decode cX13_reckoned 68 = .ok (.dload_n 1, 1) := by decide +kernel
theorem dX13_reckoned_69 : decode cX13_reckoned 69 = .ok (.dload_n 3, 1) := by decide +kernel
theorem dX13_reckoned_70 : decode cX13_reckoned 70 = .ok (.invokestatic 451, 3) := by decide +kernel
theorem dX13_reckoned_73 : decode cX13_reckoned 73 = .ok (.dreturn, 1) := by decide +kernel
theorem dX13_reckoned_74 : decode cX13_reckoned 74 = .ok (.iload_n 0, 1) := by decide +kernel
theorem dX13_reckoned_75 : decode cX13_reckoned 75 = .ok (.bipush 15, 2) := by decide +kernel
theorem dX13_reckoned_77 : decode cX13_reckoned 77 = .ok (.if_icmp .ne 7, 3) := by decide +kernel
theorem dX13_reckoned_80 : decode cX13_reckoned 80 = .ok (.dload_n 1, 1) := by decide +kernel
theorem dX13_reckoned_81 : decode cX13_reckoned 81 = .ok (.d2f, 1) := by decide +kernel
theorem dX13_reckoned_82 : decode cX13_reckoned 82 = .ok (.f2d, 1) := by decide +kernel
theorem dX13_reckoned_83 : decode cX13_reckoned 83 = .ok (.dreturn, 1) := by decide +kernel
theorem dX13_reckoned_84 : decode cX13_reckoned 84 = .ok (.iload_n 0, 1) := by decide +kernel
theorem dX13_reckoned_85 : decode cX13_reckoned 85 = .ok (.bipush 16, 2) := by decide +kernel
theorem dX13_reckoned_87 : decode cX13_reckoned 87 = .ok (.if_icmp .ne 9, 3) := by decide +kernel
theorem dX13_reckoned_90 : decode cX13_reckoned 90 = .ok (.dload_n 1, 1) := by decide +kernel
theorem dX13_reckoned_91 : decode cX13_reckoned 91 = .ok (.d2l, 1) := by decide +kernel
theorem dX13_reckoned_92 : decode cX13_reckoned 92 = .ok (.l2d, 1) := by decide +kernel
theorem dX13_reckoned_93 : decode cX13_reckoned 93 = .ok (.goto 4, 3) := by decide +kernel
theorem dX13_reckoned_96 : decode cX13_reckoned 96 = .ok (.dload_n 1, 1) := by decide +kernel
theorem dX13_reckoned_97 : decode cX13_reckoned 97 = .ok (.dreturn, 1) := by decide +kernel
def pX13_reckoned (p0 : Int32) (p1 : UInt64) (p3 : UInt64) : UInt64 := if p0 = 7 then (fadd p1 p3) else if p0 = 8 then (fsub p1 p3) else if p0 = 9 then (fmul p1 p3) else if p0 = 10 then (fdiv p1 p3) else if p0 = 11 then (frem p1 p3) else if p0 = 12 then (fmin p1 p3) else if p0 = 13 then (fmax p1 p3) else if p0 = 15 then (cnD (FP.f2d (cnF (FP.d2f p1)))) else if p0 = 16 then (fl2d (FP.d2l p1)) else p1
set_option maxRecDepth 10000 in
set_option maxHeartbeats 4000000 in
theorem pX13_reckoned_ok (G : Gx) (dk : Nat) (hK : 1 ≤ dk) (g : MT) (h0 : CT) (p0 : Int32) (p1 : UInt64) (p3 : UInt64) : Ctr G dk yX13_reckoned cX13_reckoned 5 (some .double) [.int p0, .double p1, .double p3] g h0 (some (.double (pX13_reckoned p0 p1 p3))) g h0 := by
  obtain ⟨r0, hf⟩ : ∃ z, pX13_reckoned p0 p1 p3 = z := ⟨_, rfl⟩
  rw [hf]
  refine Ctr.ofZ (lv := [(0, .int p0), (1, .double p1), (3, .double p3)]) (by decide +kernel) (by simp [cat_i, cat_l, cat_d, cat_rf]) rfl fun X Z => ?_
  unfold pX13_reckoned at hf
  refine J_iload_n Z.1 0 dX13_reckoned_0 rfl rfl ?_
  refine J_bipush Z.1 (v := 7) (by decide) dX13_reckoned_1 ?_
  refine J_icmp_ne Z.1 10 dX13_reckoned_3 (by decide) (fun c1 => ?_) (fun c1 => ?_)
  · rw [if_neg c1] at hf
    refine J_iload_n Z.1 0 dX13_reckoned_10 rfl rfl ?_
    refine J_bipush Z.1 (v := 8) (by decide) dX13_reckoned_11 ?_
    refine J_icmp_ne Z.1 20 dX13_reckoned_13 (by decide) (fun c2 => ?_) (fun c2 => ?_)
    · rw [if_neg c2] at hf
      refine J_iload_n Z.1 0 dX13_reckoned_20 rfl rfl ?_
      refine J_bipush Z.1 (v := 9) (by decide) dX13_reckoned_21 ?_
      refine J_icmp_ne Z.1 30 dX13_reckoned_23 (by decide) (fun c3 => ?_) (fun c3 => ?_)
      · rw [if_neg c3] at hf
        refine J_iload_n Z.1 0 dX13_reckoned_30 rfl rfl ?_
        refine J_bipush Z.1 (v := 10) (by decide) dX13_reckoned_31 ?_
        refine J_icmp_ne Z.1 40 dX13_reckoned_33 (by decide) (fun c4 => ?_) (fun c4 => ?_)
        · rw [if_neg c4] at hf
          refine J_iload_n Z.1 0 dX13_reckoned_40 rfl rfl ?_
          refine J_bipush Z.1 (v := 11) (by decide) dX13_reckoned_41 ?_
          refine J_icmp_ne Z.1 50 dX13_reckoned_43 (by decide) (fun c5 => ?_) (fun c5 => ?_)
          · rw [if_neg c5] at hf
            refine J_iload_n Z.1 0 dX13_reckoned_50 rfl rfl ?_
            refine J_bipush Z.1 (v := 12) (by decide) dX13_reckoned_51 ?_
            refine J_icmp_ne Z.1 62 dX13_reckoned_53 (by decide) (fun c6 => ?_) (fun c6 => ?_)
            · rw [if_neg c6] at hf
              refine J_iload_n Z.1 0 dX13_reckoned_62 rfl rfl ?_
              refine J_bipush Z.1 (v := 13) (by decide) dX13_reckoned_63 ?_
              refine J_icmp_ne Z.1 74 dX13_reckoned_65 (by decide) (fun c7 => ?_) (fun c7 => ?_)
              · rw [if_neg c7] at hf
                refine J_iload_n Z.1 0 dX13_reckoned_74 rfl rfl ?_
                refine J_bipush Z.1 (v := 15) (by decide) dX13_reckoned_75 ?_
                refine J_icmp_ne Z.1 84 dX13_reckoned_77 (by decide) (fun c8 => ?_) (fun c8 => ?_)
                · rw [if_neg c8] at hf
                  refine J_iload_n Z.1 0 dX13_reckoned_84 rfl rfl ?_
                  refine J_bipush Z.1 (v := 16) (by decide) dX13_reckoned_85 ?_
                  refine J_icmp_ne Z.1 96 dX13_reckoned_87 (by decide) (fun c9 => ?_) (fun c9 => ?_)
                  · rw [if_neg c9] at hf
                    refine J_dload_n Z.1 1 dX13_reckoned_96 rfl rfl ?_
                    cases hf
                    exact J_dret Z.1 Z.2.2.2.2.2 dX13_reckoned_97
                  · rw [if_pos c9] at hf
                    refine J_dload_n Z.1 1 dX13_reckoned_90 rfl rfl ?_
                    refine J_d2l Z.1 dX13_reckoned_91 ?_
                    refine J_l2d Z.1 dX13_reckoned_92 ?_
                    refine J_goto Z.1 97 dX13_reckoned_93 (by decide) ?_
                    cases hf
                    exact J_dret Z.1 Z.2.2.2.2.2 dX13_reckoned_97
                · rw [if_pos c8] at hf
                  refine J_dload_n Z.1 1 dX13_reckoned_80 rfl rfl ?_
                  refine J_d2f Z.1 dX13_reckoned_81 ?_
                  refine J_f2d Z.1 dX13_reckoned_82 ?_
                  cases hf
                  exact J_dret Z.1 Z.2.2.2.2.2 dX13_reckoned_83
              · rw [if_pos c7] at hf
                refine J_dload_n Z.1 1 dX13_reckoned_68 rfl rfl ?_
                refine J_dload_n Z.1 2 dX13_reckoned_69 rfl rfl ?_
                refine J_dmax Z.1 dX13_reckoned_70 q_2003 q_2004 q_142 q_2005 Z.2.1 (zF Z (d := 0) (by omega)) (zO1 Z (by omega) (by simp [cat_i, cat_l, cat_d, cat_rf])) ?_
                cases hf
                exact J_dret Z.1 Z.2.2.2.2.2 dX13_reckoned_73
            · rw [if_pos c6] at hf
              refine J_dload_n Z.1 1 dX13_reckoned_56 rfl rfl ?_
              refine J_dload_n Z.1 2 dX13_reckoned_57 rfl rfl ?_
              refine J_dmin Z.1 dX13_reckoned_58 q_1995 q_1996 q_142 q_1997 Z.2.1 (zF Z (d := 0) (by omega)) (zO1 Z (by omega) (by simp [cat_i, cat_l, cat_d, cat_rf])) ?_
              cases hf
              exact J_dret Z.1 Z.2.2.2.2.2 dX13_reckoned_61
          · rw [if_pos c5] at hf
            refine J_dload_n Z.1 1 dX13_reckoned_46 rfl rfl ?_
            refine J_dload_n Z.1 2 dX13_reckoned_47 rfl rfl ?_
            refine J_drem Z.1 dX13_reckoned_48 ?_
            cases hf
            exact J_dret Z.1 Z.2.2.2.2.2 dX13_reckoned_49
        · rw [if_pos c4] at hf
          refine J_dload_n Z.1 1 dX13_reckoned_36 rfl rfl ?_
          refine J_dload_n Z.1 2 dX13_reckoned_37 rfl rfl ?_
          refine J_ddiv Z.1 dX13_reckoned_38 ?_
          cases hf
          exact J_dret Z.1 Z.2.2.2.2.2 dX13_reckoned_39
      · rw [if_pos c3] at hf
        refine J_dload_n Z.1 1 dX13_reckoned_26 rfl rfl ?_
        refine J_dload_n Z.1 2 dX13_reckoned_27 rfl rfl ?_
        refine J_dmul Z.1 dX13_reckoned_28 ?_
        cases hf
        exact J_dret Z.1 Z.2.2.2.2.2 dX13_reckoned_29
    · rw [if_pos c2] at hf
      refine J_dload_n Z.1 1 dX13_reckoned_16 rfl rfl ?_
      refine J_dload_n Z.1 2 dX13_reckoned_17 rfl rfl ?_
      refine J_dsub Z.1 dX13_reckoned_18 ?_
      cases hf
      exact J_dret Z.1 Z.2.2.2.2.2 dX13_reckoned_19
  · rw [if_pos c1] at hf
    refine J_dload_n Z.1 1 dX13_reckoned_6 rfl rfl ?_
    refine J_dload_n Z.1 2 dX13_reckoned_7 rfl rfl ?_
    refine J_dadd Z.1 dX13_reckoned_8 ?_
    cases hf
    exact J_dret Z.1 Z.2.2.2.2.2 dX13_reckoned_9
theorem dX13_valueOf_0 : decode cX13_valueOf 0 = .ok (.aload_n 0, 1) := by decide +kernel
theorem dX13_valueOf_1 : decode cX13_valueOf 1 = .ok (.iload_n 1, 1) := by decide +kernel
theorem dX13_valueOf_2 : decode cX13_valueOf 2 = .ok (.iconst 0, 1) := by decide +kernel
theorem dX13_valueOf_3 : decode cX13_valueOf 3 = .ok (.invokevirtual 381, 3) := by decide +kernel
theorem dX13_valueOf_6 : decode cX13_valueOf 6 = .ok (.istore_n 3, 1) := by decide +kernel
theorem dX13_valueOf_7 : decode cX13_valueOf 7 = .ok (.iload_n 3, 1) := by decide +kernel
theorem dX13_valueOf_8 : decode cX13_valueOf 8 = .ok (.iconst 1, 1) := by decide +kernel
theorem dX13_valueOf_9 : decode cX13_valueOf 9 = .ok (.if_icmp .ne 6, 3) := by decide +kernel
theorem dX13_valueOf_12 : decode cX13_valueOf 12 = .ok (.iload_n 2, 1) := by decide +kernel
theorem dX13_valueOf_13 : decode cX13_valueOf 13 = .ok (.i2d, 1) := by decide +kernel
theorem dX13_valueOf_14 : decode cX13_valueOf 14 = .ok (.dreturn, 1) := by decide +kernel
theorem dX13_valueOf_15 : decode cX13_valueOf 15 = .ok (.iload_n 3, 1) := by decide +kernel
theorem dX13_valueOf_16 : decode cX13_valueOf 16 = .ok (.iconst 2, 1) := by decide +kernel
theorem dX13_valueOf_17 : decode cX13_valueOf 17 = .ok (.if_icmp .ne 18, 3) := by decide +kernel
theorem dX13_valueOf_20 : decode cX13_valueOf 20 = .ok (.aload_n 0, 1) := by decide +kernel
theorem dX13_valueOf_21 : decode cX13_valueOf 21 = .ok (.getfield 34, 3) := by decide +kernel
theorem dX13_valueOf_24 : decode cX13_valueOf 24 = .ok (.bipush 96, 2) := by decide +kernel
theorem dX13_valueOf_26 : decode cX13_valueOf 26 = .ok (.aload_n 0, 1) := by decide +kernel
theorem dX13_valueOf_27 : decode cX13_valueOf 27 = .ok (.iload_n 1, 1) := by decide +kernel
theorem dX13_valueOf_28 : decode cX13_valueOf 28 = .ok (.iconst 5, 1) := by decide +kernel
theorem dX13_valueOf_29 : decode cX13_valueOf 29 = .ok (.invokevirtual 381, 3) := by decide +kernel
theorem dX13_valueOf_32 : decode cX13_valueOf 32 = .ok (.iadd, 1) := by decide +kernel
theorem dX13_valueOf_33 : decode cX13_valueOf 33 = .ok (.daload, 1) := by decide +kernel
theorem dX13_valueOf_34 : decode cX13_valueOf 34 = .ok (.dreturn, 1) := by decide +kernel
theorem dX13_valueOf_35 : decode cX13_valueOf 35 = .ok (.iload_n 3, 1) := by decide +kernel
theorem dX13_valueOf_36 : decode cX13_valueOf 36 = .ok (.invokestatic 360, 3) := by decide +kernel
theorem dX13_valueOf_39 : decode cX13_valueOf 39 = .ok (.ifCond .eq 18, 3) := by decide +kernel
theorem dX13_valueOf_42 : decode cX13_valueOf 42 = .ok (.aload_n 0, 1) := by decide +kernel
theorem dX13_valueOf_43 : decode cX13_valueOf 43 = .ok (.getfield 34, 3) := by decide +kernel
theorem dX13_valueOf_46 : decode cX13_valueOf 46 = .ok (.bipush 100, 2) := by decide +kernel
theorem dX13_valueOf_48 : decode cX13_valueOf 48 = .ok (.aload_n 0, 1) := by decide +kernel
theorem dX13_valueOf_49 : decode cX13_valueOf 49 = .ok (.iload_n 1, 1) := by decide +kernel
theorem dX13_valueOf_50 : decode cX13_valueOf 50 = .ok (.iload_n 2, 1) := by decide +kernel
theorem dX13_valueOf_51 : decode cX13_valueOf 51 = .ok (.invokevirtual 432, 3) := by decide +kernel
theorem dX13_valueOf_54 : decode cX13_valueOf 54 = .ok (.iadd, 1) := by decide +kernel
theorem dX13_valueOf_55 : decode cX13_valueOf 55 = .ok (.daload, 1) := by decide +kernel
theorem dX13_valueOf_56 : decode cX13_valueOf 56 = .ok (.dreturn, 1) := by decide +kernel
theorem dX13_valueOf_57 : decode cX13_valueOf 57 = .ok (.iload_n 3, 1) := by decide +kernel
theorem dX13_valueOf_58 : decode cX13_valueOf 58 = .ok (.aload_n 0, 1) := by decide +kernel
theorem dX13_valueOf_59 : decode cX13_valueOf 59 = .ok (.getfield 34, 3) := by decide +kernel
theorem dX13_valueOf_62 : decode cX13_valueOf 62 = .ok (.bipush 16, 2) := by decide +kernel
theorem dX13_valueOf_64 : decode cX13_valueOf 64 = .ok (.aload_n 0, 1) := by decide +kernel
theorem dX13_valueOf_65 : decode cX13_valueOf 65 = .ok (.iload_n 1, 1) := by decide +kernel
theorem dX13_valueOf_66 : decode cX13_valueOf 66 = .ok (.iconst 2, 1) := by decide +kernel
theorem dX13_valueOf_67 : decode cX13_valueOf 67 = .ok (.invokevirtual 381, 3) := by decide +kernel
theorem dX13_valueOf_70 : decode cX13_valueOf 70 = .ok (.imul, 1) := by decide +kernel
theorem dX13_valueOf_71 : decode cX13_valueOf 71 = .ok (.iload_n 2, 1) := by decide +kernel
theorem dX13_valueOf_72 : decode cX13_valueOf 72 = .ok (.iadd, 1) := by decide +kernel
theorem dX13_valueOf_73 : decode cX13_valueOf 73 = .ok (.daload, 1) := by decide +kernel
theorem dX13_valueOf_74 : decode cX13_valueOf 74 = .ok (.aload_n 0, 1) := by decide +kernel
theorem dX13_valueOf_75 : decode cX13_valueOf 75 = .ok (.getfield 34, 3) := by decide +kernel
theorem dX13_valueOf_78 : decode cX13_valueOf 78 = .ok (.bipush 16, 2) := by decide +kernel
theorem dX13_valueOf_80 : decode cX13_valueOf 80 = .ok (.aload_n 0, 1) := by decide +kernel
theorem dX13_valueOf_81 : decode cX13_valueOf 81 = .ok (.iload_n 1, 1) := by decide +kernel
theorem dX13_valueOf_82 : decode cX13_valueOf 82 = .ok (.iconst 3, 1) := by decide +kernel
theorem dX13_valueOf_83 : decode cX13_valueOf 83 = .ok (.invokevirtual 381, 3) := by decide +kernel
theorem dX13_valueOf_86 : decode cX13_valueOf 86 = .ok (.imul, 1) := by decide +kernel
theorem dX13_valueOf_87 : decode cX13_valueOf 87 = .ok (.iload_n 2, 1) := by decide +kernel
theorem dX13_valueOf_88 : decode cX13_valueOf 88 = .ok (.iadd, 1) := by decide +kernel
theorem dX13_valueOf_89 : decode cX13_valueOf 89 = .ok (.daload, 1) := by decide +kernel
theorem dX13_valueOf_90 : decode cX13_valueOf 90 = .ok (.invokestatic 453, 3) := by decide +kernel
theorem dX13_valueOf_93 : decode cX13_valueOf 93 = .ok (.dreturn, 1) := by decide +kernel
def pX13_valueOf (g : MT) (h : CT) (this : Nat) (p1 : Int32) (p2 : Int32) : Option UInt64 := tg g this 12 (bd (pX13_at g h this p1 0) fun x1 => (if x1 = 1 then some (fi2d p2) else if x1 = 2 then lt (hR h this 20) fun r21 => (bd (pX13_at g h this p1 5) fun x22 => (nn r21 fun a21 => (tg g a21 22 (ix (gL g a21) (96 + x22) (some (hD h a21 (Int32.toNatClampNeg (96 + x22)))))))) else if (pX13_isMemory x1) = 0 then lt (hR h this 20) fun r6 => (bd (pX13_at g h this p1 2) fun x7 => (nn r6 fun a6 => (tg g a6 22 (ix (gL g a6) ((16 * x7) + p2) (lt (hR h this 20) fun r11 => (bd (pX13_at g h this p1 3) fun x12 => (nn r11 fun a11 => (tg g a11 22 (ix (gL g a11) ((16 * x12) + p2) (some (pX13_reckoned x1 (hD h a6 (Int32.toNatClampNeg ((16 * x7) + p2))) (hD h a11 (Int32.toNatClampNeg ((16 * x12) + p2)))))))))))))) else lt (hR h this 20) fun r16 => (bd (pX13_placeOf g h this p1 p2) fun x17 => (nn r16 fun a16 => (tg g a16 22 (ix (gL g a16) (100 + x17) (some (hD h a16 (Int32.toNatClampNeg (100 + x17))))))))))
set_option maxRecDepth 10000 in
set_option maxHeartbeats 4000000 in
theorem pX13_valueOf_ok (G : Gx) (dk : Nat) (hK : 2 ≤ dk) {g : MT} {h : CT} {this : Nat} {p1 : Int32} {p2 : Int32} {r0 : UInt64} (hf : pX13_valueOf g h this p1 p2 = some r0) : Ctr G dk yX13_valueOf cX13_valueOf 4 (some .double) [va_rf (some this), .int p1, .int p2] g h (some (.double r0)) g h := by
  refine Ctr.ofZ (lv := [(0, va_rf (some this)), (1, .int p1), (2, .int p2)]) (by decide +kernel) (by simp [cat_i, cat_l, cat_d, cat_rf]) rfl fun X Z => ?_
  unfold pX13_valueOf at hf
  obtain ⟨t0, hf⟩ := tg_i hf
  refine J_aload_n Z.1 0 dX13_valueOf_0 rfl rfl ?_
  refine J_iload_n Z.1 1 dX13_valueOf_1 rfl rfl ?_
  refine J_iconst Z.1 (v := 0) (by decide) dX13_valueOf_2 ?_
  obtain ⟨x1, q2, hf⟩ := bd_i hf
  refine J_callV (ci := 11) (as := [.int p1, .int 0]) (rest := []) (sy := [.int x1]) Z.1 dX13_valueOf_3 cw_X13_381 (pX13_at_ok G (dk - 1) (by omega) q2) rfl rfl t0 (zG Z) rfl (by decide) (zF Z (by omega)) (zO Z (by omega) (by decide)) (zM _) Z.2.1 Z.2.1 rfl rfl ?_
  refine J_istore_n Z.1 (lv2 := [(3, .int x1), (0, va_rf (some this)), (1, .int p1), (2, .int p2)]) dX13_valueOf_6 rfl (zL Z (by decide)) rfl ?_
  refine J_iload_n Z.1 0 dX13_valueOf_7 rfl rfl ?_
  refine J_iconst Z.1 (v := 1) (by decide) dX13_valueOf_8 ?_
  refine J_icmp_ne Z.1 15 dX13_valueOf_9 (by decide) (fun c3 => ?_) (fun c3 => ?_)
  · rw [if_neg c3] at hf
    refine J_iload_n Z.1 0 dX13_valueOf_15 rfl rfl ?_
    refine J_iconst Z.1 (v := 2) (by decide) dX13_valueOf_16 ?_
    refine J_icmp_ne Z.1 35 dX13_valueOf_17 (by decide) (fun c4 => ?_) (fun c4 => ?_)
    · rw [if_neg c4] at hf
      refine J_iload_n Z.1 0 dX13_valueOf_35 rfl rfl ?_
      refine J_callS (as := [.int x1]) (rest := []) (sy := [.int (pX13_isMemory x1)]) Z.1 dX13_valueOf_36 cw_X13_360 (pX13_isMemory_ok G (dk - 1) (by omega) g h x1) (zG Z) rfl (by decide) (zF Z (by omega)) (zO Z (by omega) (by decide)) (zM _) Z.2.1 Z.2.1 rfl rfl ?_
      refine J_if_eq Z.1 57 dX13_valueOf_39 (by decide) (fun c5 => ?_) (fun c5 => ?_)
      · rw [if_pos c5] at hf
        refine J_iload_n Z.1 0 dX13_valueOf_57 rfl rfl ?_
        refine J_aload_n Z.1 1 dX13_valueOf_58 rfl rfl ?_
        refine J_get (v := va_rf (hR h this 20)) Z.1 dX13_valueOf_59 fl_X13_34 t0 rfl ?_
        refine J_tr (fun r6 er6 => ?_)
        replace hf := lt_i hf r6 er6
        refine J_bipush Z.1 (v := 16) (by decide) dX13_valueOf_62 ?_
        refine J_aload_n Z.1 1 dX13_valueOf_64 rfl rfl ?_
        refine J_iload_n Z.1 2 dX13_valueOf_65 rfl rfl ?_
        refine J_iconst Z.1 (v := 2) (by decide) dX13_valueOf_66 ?_
        obtain ⟨x7, q8, hf⟩ := bd_i hf
        refine J_callV (ci := 11) (as := [.int p1, .int 2]) (rest := [.int 16, va_rf r6, .int x1]) (sy := [.int x7, .int 16, va_rf r6, .int x1]) Z.1 dX13_valueOf_67 cw_X13_381 (pX13_at_ok G (dk - 1) (by omega) q8) rfl rfl t0 (zG Z) rfl (by simp [cat_i, cat_l, cat_d, cat_rf]) (zF Z (by omega)) (zO Z (by omega) (by decide)) (zM _) Z.2.1 Z.2.1 rfl rfl ?_
        refine J_imul Z.1 dX13_valueOf_70 ?_
        refine J_iload_n Z.1 3 dX13_valueOf_71 rfl rfl ?_
        refine J_iadd Z.1 dX13_valueOf_72 ?_
        obtain ⟨a6, rfl, hf⟩ := nn_i hf
        obtain ⟨t9, hf⟩ := tg_i hf
        obtain ⟨i10, hf⟩ := ix_i hf
        refine J_daload Z.1 dX13_valueOf_73 t9 i10 ?_
        refine J_aload_n Z.1 1 dX13_valueOf_74 rfl rfl ?_
        refine J_get (v := va_rf (hR h this 20)) Z.1 dX13_valueOf_75 fl_X13_34 t0 rfl ?_
        refine J_tr (fun r11 er11 => ?_)
        replace hf := lt_i hf r11 er11
        refine J_bipush Z.1 (v := 16) (by decide) dX13_valueOf_78 ?_
        refine J_aload_n Z.1 1 dX13_valueOf_80 rfl rfl ?_
        refine J_iload_n Z.1 2 dX13_valueOf_81 rfl rfl ?_
        refine J_iconst Z.1 (v := 3) (by decide) dX13_valueOf_82 ?_
        obtain ⟨x12, q13, hf⟩ := bd_i hf
        refine J_callV (ci := 11) (as := [.int p1, .int 3]) (rest := [.int 16, va_rf r11, .double (hD h a6 (Int32.toNatClampNeg ((16 * x7) + p2))), .int x1]) (sy := [.int x12, .int 16, va_rf r11, .double (hD h a6 (Int32.toNatClampNeg ((16 * x7) + p2))), .int x1]) Z.1 dX13_valueOf_83 cw_X13_381 (pX13_at_ok G (dk - 1) (by omega) q13) rfl rfl t0 (zG Z) rfl (by simp [cat_i, cat_l, cat_d, cat_rf]) (zF Z (by omega)) (zO Z (by omega) (by decide)) (zM _) Z.2.1 Z.2.1 rfl rfl ?_
        refine J_imul Z.1 dX13_valueOf_86 ?_
        refine J_iload_n Z.1 3 dX13_valueOf_87 rfl rfl ?_
        refine J_iadd Z.1 dX13_valueOf_88 ?_
        obtain ⟨a11, rfl, hf⟩ := nn_i hf
        obtain ⟨t14, hf⟩ := tg_i hf
        obtain ⟨i15, hf⟩ := ix_i hf
        refine J_daload Z.1 dX13_valueOf_89 t14 i15 ?_
        refine J_callS (as := [.int x1, .double (hD h a6 (Int32.toNatClampNeg ((16 * x7) + p2))), .double (hD h a11 (Int32.toNatClampNeg ((16 * x12) + p2)))]) (rest := []) (sy := [.double (pX13_reckoned x1 (hD h a6 (Int32.toNatClampNeg ((16 * x7) + p2))) (hD h a11 (Int32.toNatClampNeg ((16 * x12) + p2))))]) Z.1 dX13_valueOf_90 cw_X13_453 (pX13_reckoned_ok G (dk - 1) (by omega) g h x1 (hD h a6 (Int32.toNatClampNeg ((16 * x7) + p2))) (hD h a11 (Int32.toNatClampNeg ((16 * x12) + p2)))) (zG Z) rfl (by decide) (zF Z (by omega)) (zO Z (by omega) (by decide)) (zM _) Z.2.1 Z.2.1 rfl rfl ?_
        cases hf
        exact J_dret Z.1 Z.2.2.2.2.2 dX13_valueOf_93
      · rw [if_neg c5] at hf
        refine J_aload_n Z.1 1 dX13_valueOf_42 rfl rfl ?_
        refine J_get (v := va_rf (hR h this 20)) Z.1 dX13_valueOf_43 fl_X13_34 t0 rfl ?_
        refine J_tr (fun r16 er16 => ?_)
        replace hf := lt_i hf r16 er16
        refine J_bipush Z.1 (v := 100) (by decide) dX13_valueOf_46 ?_
        refine J_aload_n Z.1 1 dX13_valueOf_48 rfl rfl ?_
        refine J_iload_n Z.1 2 dX13_valueOf_49 rfl rfl ?_
        refine J_iload_n Z.1 3 dX13_valueOf_50 rfl rfl ?_
        obtain ⟨x17, q18, hf⟩ := bd_i hf
        refine J_callV (ci := 11) (as := [.int p1, .int p2]) (rest := [.int 100, va_rf r16]) (sy := [.int x17, .int 100, va_rf r16]) Z.1 dX13_valueOf_51 cw_X13_432 (pX13_placeOf_ok G (dk - 1) (by omega) q18) rfl rfl t0 (zG Z) rfl (by simp [cat_i, cat_l, cat_d, cat_rf]) (zF Z (by omega)) (zO Z (by omega) (by decide)) (zM _) Z.2.1 Z.2.1 rfl rfl ?_
        refine J_iadd Z.1 dX13_valueOf_54 ?_
        obtain ⟨a16, rfl, hf⟩ := nn_i hf
        obtain ⟨t19, hf⟩ := tg_i hf
        obtain ⟨i20, hf⟩ := ix_i hf
        refine J_daload Z.1 dX13_valueOf_55 t19 i20 ?_
        cases hf
        exact J_dret Z.1 Z.2.2.2.2.2 dX13_valueOf_56
    · rw [if_pos c4] at hf
      refine J_aload_n Z.1 1 dX13_valueOf_20 rfl rfl ?_
      refine J_get (v := va_rf (hR h this 20)) Z.1 dX13_valueOf_21 fl_X13_34 t0 rfl ?_
      refine J_tr (fun r21 er21 => ?_)
      replace hf := lt_i hf r21 er21
      refine J_bipush Z.1 (v := 96) (by decide) dX13_valueOf_24 ?_
      refine J_aload_n Z.1 1 dX13_valueOf_26 rfl rfl ?_
      refine J_iload_n Z.1 2 dX13_valueOf_27 rfl rfl ?_
      refine J_iconst Z.1 (v := 5) (by decide) dX13_valueOf_28 ?_
      obtain ⟨x22, q23, hf⟩ := bd_i hf
      refine J_callV (ci := 11) (as := [.int p1, .int 5]) (rest := [.int 96, va_rf r21]) (sy := [.int x22, .int 96, va_rf r21]) Z.1 dX13_valueOf_29 cw_X13_381 (pX13_at_ok G (dk - 1) (by omega) q23) rfl rfl t0 (zG Z) rfl (by simp [cat_i, cat_l, cat_d, cat_rf]) (zF Z (by omega)) (zO Z (by omega) (by decide)) (zM _) Z.2.1 Z.2.1 rfl rfl ?_
      refine J_iadd Z.1 dX13_valueOf_32 ?_
      obtain ⟨a21, rfl, hf⟩ := nn_i hf
      obtain ⟨t24, hf⟩ := tg_i hf
      obtain ⟨i25, hf⟩ := ix_i hf
      refine J_daload Z.1 dX13_valueOf_33 t24 i25 ?_
      cases hf
      exact J_dret Z.1 Z.2.2.2.2.2 dX13_valueOf_34
  · rw [if_pos c3] at hf
    refine J_iload_n Z.1 3 dX13_valueOf_12 rfl rfl ?_
    refine J_i2d Z.1 dX13_valueOf_13 ?_
    cases hf
    exact J_dret Z.1 Z.2.2.2.2.2 dX13_valueOf_14
theorem dX13_comes_0 : decode cX13_comes 0 = .ok (.aload_n 0, 1) := by decide +kernel
theorem dX13_comes_1 : decode cX13_comes 1 = .ok (.iload_n 1, 1) := by decide +kernel
theorem dX13_comes_2 : decode cX13_comes 2 = .ok (.invokevirtual 304, 3) := by decide +kernel
theorem dX13_comes_5 : decode cX13_comes 5 = .ok (.aload_n 0, 1) := by decide +kernel
theorem dX13_comes_6 : decode cX13_comes 6 = .ok (.getfield 34, 3) := by decide +kernel
theorem dX13_comes_9 : decode cX13_comes 9 = .ok (.bipush 16, 2) := by decide +kernel
theorem dX13_comes_11 : decode cX13_comes 11 = .ok (.iload_n 1, 1) := by decide +kernel
theorem dX13_comes_12 : decode cX13_comes 12 = .ok (.imul, 1) := by decide +kernel
theorem dX13_comes_13 : decode cX13_comes 13 = .ok (.iload_n 2, 1) := by decide +kernel
theorem dX13_comes_14 : decode cX13_comes 14 = .ok (.iadd, 1) := by decide +kernel
theorem dX13_comes_15 : decode cX13_comes 15 = .ok (.dload_n 3, 1) := by decide +kernel
theorem dX13_comes_16 : decode cX13_comes 16 = .ok (.dastore, 1) := by decide +kernel
theorem dX13_comes_17 : decode cX13_comes 17 = .ok (.return_, 1) := by decide +kernel
def pX13_comes (g : MT) (h : CT) (this : Nat) (p1 : Int32) (p2 : Int32) (p3 : UInt64) : Option CT := tg g this 12 (bd (pX13_there g h this p1) fun h1 => (lt (hR h1 this 20) fun r3 => (nn r3 fun a3 => (tg g a3 22 (ix (gL g a3) ((16 * p1) + p2) (lt (sD h1 a3 (Int32.toNatClampNeg ((16 * p1) + p2)) p3) fun h6 => (some h6)))))))
set_option maxRecDepth 10000 in
set_option maxHeartbeats 4000000 in
theorem pX13_comes_ok (G : Gx) (dk : Nat) (hK : 2 ≤ dk) {g : MT} {h h0 : CT} {this : Nat} {p1 : Int32} {p2 : Int32} {p3 : UInt64} (hf : pX13_comes g h this p1 p2 p3 = some h0) : Ctr G dk yX13_comes cX13_comes 5 none [va_rf (some this), .int p1, .int p2, .double p3] g h none g h0 := by
  refine Ctr.ofZ (lv := [(0, va_rf (some this)), (1, .int p1), (2, .int p2), (3, .double p3)]) (by decide +kernel) (by simp [cat_i, cat_l, cat_d, cat_rf]) rfl fun X Z => ?_
  unfold pX13_comes at hf
  obtain ⟨t0, hf⟩ := tg_i hf
  refine J_aload_n Z.1 0 dX13_comes_0 rfl rfl ?_
  refine J_iload_n Z.1 1 dX13_comes_1 rfl rfl ?_
  obtain ⟨h1, q2, hf⟩ := bd_i hf
  refine J_callV (ci := 11) (as := [.int p1]) (rest := []) (sy := []) Z.1 dX13_comes_2 cw_X13_304 (pX13_there_ok G (dk - 1) (by omega) q2) rfl rfl t0 (zG Z) rfl (by decide) (zF Z (by omega)) (zO Z (by omega) (by decide)) (zM _) Z.2.1 Z.2.1 rfl rfl ?_
  refine J_aload_n Z.1 0 dX13_comes_5 rfl rfl ?_
  refine J_get (v := va_rf (hR h1 this 20)) Z.1 dX13_comes_6 fl_X13_34 t0 rfl ?_
  refine J_tr (fun r3 er3 => ?_)
  replace hf := lt_i hf r3 er3
  refine J_bipush Z.1 (v := 16) (by decide) dX13_comes_9 ?_
  refine J_iload_n Z.1 1 dX13_comes_11 rfl rfl ?_
  refine J_imul Z.1 dX13_comes_12 ?_
  refine J_iload_n Z.1 2 dX13_comes_13 rfl rfl ?_
  refine J_iadd Z.1 dX13_comes_14 ?_
  refine J_dload_n Z.1 3 dX13_comes_15 rfl rfl ?_
  obtain ⟨a3, rfl, hf⟩ := nn_i hf
  obtain ⟨t4, hf⟩ := tg_i hf
  obtain ⟨i5, hf⟩ := ix_i hf
  refine J_dastore Z.1 dX13_comes_16 t4 i5 ?_
  refine J_th (fun h6 eh6 => ?_)
  replace hf := lt_i hf h6 eh6
  cases hf
  exact J_vret Z.1 Z.2.2.2.2.2 dX13_comes_17
theorem dX13_compares_0 : decode cX13_compares 0 = .ok (.aload_n 0, 1) := by decide +kernel
theorem dX13_compares_1 : decode cX13_compares 1 = .ok (.iload_n 1, 1) := by decide +kernel
theorem dX13_compares_2 : decode cX13_compares 2 = .ok (.iconst 0, 1) := by decide +kernel
theorem dX13_compares_3 : decode cX13_compares 3 = .ok (.invokevirtual 381, 3) := by decide +kernel
theorem dX13_compares_6 : decode cX13_compares 6 = .ok (.istore_n 3, 1) := by decide +kernel
theorem dX13_compares_7 : decode cX13_compares 7 = .ok (.aload_n 0, 1) := by decide +kernel
theorem dX13_compares_8 : decode cX13_compares 8 = .ok (.getfield 34, 3) := by decide +kernel
theorem dX13_compares_11 : decode cX13_compares 11 = .ok (.bipush 16, 2) := by decide +kernel
theorem dX13_compares_13 : decode cX13_compares 13 = .ok (.aload_n 0, 1) := by decide +kernel
theorem dX13_compares_14 : decode cX13_compares 14 = .ok (.iload_n 1, 1) := by decide +kernel
theorem dX13_compares_15 : decode cX13_compares 15 = .ok (.iconst 1, 1) := by decide +kernel
theorem dX13_compares_16 : decode cX13_compares 16 = .ok (.invokevirtual 381, 3) := by decide +kernel
theorem dX13_compares_19 : decode cX13_compares 19 = .ok (.imul, 1) := by decide +kernel
theorem dX13_compares_20 : decode cX13_compares 20 = .ok (.iload_n 2, 1) := by decide +kernel
theorem dX13_compares_21 : decode cX13_compares 21 = .ok (.iadd, 1) := by decide +kernel
theorem dX13_compares_22 : decode cX13_compares 22 = .ok (.daload, 1) := by decide +kernel
theorem dX13_compares_23 : decode cX13_compares 23 = .ok (.dstore 4, 2) := by decide +kernel
theorem dX13_compares_25 : decode cX13_compares 25 = .ok (.aload_n 0, 1) := by decide +kernel
theorem dX13_compares_26 : decode cX13_compares 26 = .ok (.getfield 34, 3) := by decide +kernel
theorem dX13_compares_29 : decode cX13_compares 29 = .ok (.bipush 16, 2) := by decide +kernel
theorem dX13_compares_31 : decode cX13_compares 31 = .ok (.aload_n 0, 1) := by decide +kernel
theorem dX13_compares_32 : decode cX13_compares 32 = .ok (.iload_n 1, 1) := by decide +kernel
theorem dX13_compares_33 : decode cX13_compares 33 = .ok (.iconst 2, 1) := by decide +kernel
theorem dX13_compares_34 : decode cX13_compares 34 = .ok (.invokevirtual 381, 3) := by decide +kernel
theorem dX13_compares_37 : decode cX13_compares 37 = .ok (.imul, 1) := by decide +kernel
theorem dX13_compares_38 : decode cX13_compares 38 = .ok (.iload_n 2, 1) := by decide +kernel
theorem dX13_compares_39 : decode cX13_compares 39 = .ok (.iadd, 1) := by decide +kernel
theorem dX13_compares_40 : decode cX13_compares 40 = .ok (.daload, 1) := by decide +kernel
theorem dX13_compares_41 : decode cX13_compares 41 = .ok (.dstore 6, 2) := by decide +kernel
theorem dX13_compares_43 : decode cX13_compares 43 = .ok (.iload_n 3, 1) := by decide +kernel
theorem dX13_compares_44 : decode cX13_compares 44 = .ok (.bipush 17, 2) := by decide +kernel
theorem dX13_compares_46 : decode cX13_compares 46 = .ok (.if_icmp .ne 19, 3) := by decide +kernel
theorem dX13_compares_49 : decode cX13_compares 49 = .ok (.dload 4, 2) := by decide +kernel
theorem dX13_compares_51 : decode cX13_compares 51 = .ok (.dload 6, 2) := by decide +kernel
theorem dX13_compares_53 : decode cX13_compares 53 = .ok (.dcmp .g, 1) := by decide +kernel
theorem dX13_compares_54 : decode cX13_compares 54 = .ok (.ifCond .ge 7, 3) := by decide +kernel
theorem dX13_compares_57 : decode cX13_compares 57 = .ok (.iconst 1, 1) := by decide +kernel
theorem dX13_compares_58 : decode cX13_compares 58 = .ok (.goto 42, 3) := by decide +kernel
theorem dX13_compares_61 : decode cX13_compares 61 = .ok (.iconst 0, 1) := by decide +kernel
theorem dX13_compares_62 : decode cX13_compares 62 = .ok (.goto 38, 3) := by decide +kernel
theorem dX13_compares_65 : decode cX13_compares 65 = .ok (.iload_n 3, 1) := by decide +kernel
theorem dX13_compares_66 : decode cX13_compares 66 = .ok (.bipush 18, 2) := by decide +kernel
theorem dX13_compares_68 : decode cX13_compares 68 = .ok (.if_icmp .ne 19, 3) := by decide +kernel
theorem dX13_compares_71 : decode cX13_compares 71 = .ok (.dload 4, 2) := by decide +kernel
theorem dX13_compares_73 : decode cX13_compares 73 = .ok (.dload 6, 2) := by decide +kernel
theorem dX13_compares_75 : decode cX13_compares 75 = .ok (.dcmp .l, 1) := by decide +kernel
theorem dX13_compares_76 : decode cX13_compares 76 = .ok (.ifCond .ne 7, 3) := by decide +kernel
theorem dX13_compares_79 : decode cX13_compares 79 = .ok (.iconst 1, 1) := by decide +kernel
theorem dX13_compares_80 : decode cX13_compares 80 = .ok (.goto 20, 3) := by decide +kernel
theorem dX13_compares_83 : decode cX13_compares 83 = .ok (.iconst 0, 1) := by decide +kernel
theorem dX13_compares_84 : decode cX13_compares 84 = .ok (.goto 16, 3) := by decide +kernel
theorem dX13_compares_87 : decode cX13_compares 87 = .ok (.dload 4, 2) := by decide +kernel
theorem dX13_compares_89 : decode cX13_compares 89 = .ok (.dload 4, 2) := by decide +kernel
theorem dX13_compares_91 : decode cX13_compares 91 = .ok (.dcmp .l, 1) := by decide +kernel
theorem dX13_compares_92 : decode cX13_compares 92 = .ok (.ifCond .eq 7, 3) := by decide +kernel
theorem dX13_compares_95 : decode cX13_compares 95 = .ok (.iconst 1, 1) := by decide +kernel
theorem dX13_compares_96 : decode cX13_compares 96 = .ok (.goto 4, 3) := by decide +kernel
theorem dX13_compares_99 : decode cX13_compares 99 = .ok (.iconst 0, 1) := by decide +kernel
theorem dX13_compares_100 : decode cX13_compares 100 = .ok (.istore 8, 2) := by decide +kernel
theorem dX13_compares_102 : decode cX13_compares 102 = .ok (.aload_n 0, 1) := by decide +kernel
theorem dX13_compares_103 : decode cX13_compares 103 = .ok (.getfield 31, 3) := by decide +kernel
theorem dX13_compares_106 : decode cX13_compares 106 = .ok (.iconst 3, 1) := by decide +kernel
theorem dX13_compares_107 : decode cX13_compares 107 = .ok (.aload_n 0, 1) := by decide +kernel
theorem dX13_compares_108 : decode cX13_compares 108 = .ok (.getfield 31, 3) := by decide +kernel
theorem dX13_compares_111 : decode cX13_compares 111 = .ok (.iconst 3, 1) := by decide +kernel
theorem dX13_compares_112 : decode cX13_compares 112 = .ok (.iaload, 1) := by decide +kernel
theorem dX13_compares_113 : decode cX13_compares 113 = .ok (.iconst 1, 1) := by decide +kernel
theorem dX13_compares_114 : decode cX13_compares 114 = .ok (.iload_n 2, 1) := by decide +kernel
theorem dX13_compares_115 : decode cX13_compares 115 = .ok (.ishl, 1) := by decide +kernel
theorem dX13_compares_116 : decode cX13_compares 116 = .ok (.iconst (-1), 1) := by decide +kernel
theorem dX13_compares_117 : decode cX13_compares 117 = .ok (.ixor, 1) := by decide +kernel
theorem dX13_compares_118 : decode cX13_compares 118 = .ok (.iand, 1) := by decide +kernel
theorem dX13_compares_119 : decode cX13_compares 119 = .ok (.iload 8, 2) := by decide +kernel
theorem dX13_compares_121 : decode cX13_compares 121 = .ok (.ifCond .eq 9, 3) := by decide +kernel
theorem dX13_compares_124 : decode cX13_compares 124 = .ok (.iconst 1, 1) := by decide +kernel
theorem dX13_compares_125 : decode cX13_compares 125 = .ok (.iload_n 2, 1) := by decide +kernel
theorem dX13_compares_126 : decode cX13_compares 126 = .ok (.ishl, 1) := by decide +kernel
theorem dX13_compares_127 : decode cX13_compares 127 = .ok (.goto 4, 3) := by decide +kernel
theorem dX13_compares_130 : decode cX13_compares 130 = .ok (.iconst 0, 1) := by decide +kernel
theorem dX13_compares_131 : decode cX13_compares 131 = .ok (.ior, 1) := by decide +kernel
theorem dX13_compares_132 : decode cX13_compares 132 = .ok (.iastore, 1) := by decide +kernel
theorem dX13_compares_133 : decode cX13_compares 133 = .ok (.return_, 1) := by decide +kernel
def pX13_compares_b100 (g : MT) (this : Nat) (p1 : Int32) (p2 : Int32) (s0 : Int32) (h : CT) : Option CT := lt (hR h this 19) fun r1 => (lt (hR h this 19) fun r2 => (nn r2 fun a2 => (tg g a2 20 (ix (gL g a2) 3 (if s0 = 0 then nn r1 fun a1 => (tg g a1 20 (ix (gL g a1) 3 (lt (sI h a1 (Int32.toNatClampNeg 3) (((hI h a2 (Int32.toNatClampNeg 3)) &&& (((1 : Int32) <<< (p2 &&& 31)) ^^^ (-1))) ||| 0)) fun h8 => (some h8)))) else nn r1 fun a1 => (tg g a1 20 (ix (gL g a1) 3 (lt (sI h a1 (Int32.toNatClampNeg 3) (((hI h a2 (Int32.toNatClampNeg 3)) &&& (((1 : Int32) <<< (p2 &&& 31)) ^^^ (-1))) ||| ((1 : Int32) <<< (p2 &&& 31)))) fun h11 => (some h11)))))))))
set_option maxRecDepth 10000 in
set_option maxHeartbeats 4000000 in
theorem pX13_compares_b100_ok {X : Cx} {G : Gx} {dk : Nat} {g : MT} {h0 : CT} {this : Nat} {p1 : Int32} {p2 : Int32} (Z : Zx X G cX13_compares RX13 9 dk none none g h0) (hK : 1 ≤ dk) (t0 : gT g this = 12) (s0 : Int32) (h : CT) (hf : pX13_compares_b100 g this p1 p2 s0 h = some h0) : J X g h 100 [(0, va_rf (some this)), (2, .int p2)] [.int s0] := by
  unfold pX13_compares_b100 at hf
  refine J_istore Z.1 (lv2 := [(8, .int s0), (0, va_rf (some this)), (2, .int p2)]) dX13_compares_100 (zL Z (by decide)) rfl ?_
  refine J_aload_n Z.1 1 dX13_compares_102 rfl rfl ?_
  refine J_get (v := va_rf (hR h this 19)) Z.1 dX13_compares_103 fl_X13_31 t0 rfl ?_
  refine J_tr (fun r1 er1 => ?_)
  replace hf := lt_i hf r1 er1
  refine J_iconst Z.1 (v := 3) (by decide) dX13_compares_106 ?_
  refine J_aload_n Z.1 1 dX13_compares_107 rfl rfl ?_
  refine J_get (v := va_rf (hR h this 19)) Z.1 dX13_compares_108 fl_X13_31 t0 rfl ?_
  refine J_tr (fun r2 er2 => ?_)
  replace hf := lt_i hf r2 er2
  refine J_iconst Z.1 (v := 3) (by decide) dX13_compares_111 ?_
  obtain ⟨a2, rfl, hf⟩ := nn_i hf
  obtain ⟨t3, hf⟩ := tg_i hf
  obtain ⟨i4, hf⟩ := ix_i hf
  refine J_iaload Z.1 dX13_compares_112 t3 i4 ?_
  refine J_iconst Z.1 (v := 1) (by decide) dX13_compares_113 ?_
  refine J_iload_n Z.1 2 dX13_compares_114 rfl rfl ?_
  refine J_ishl Z.1 dX13_compares_115 ?_
  refine J_iconst Z.1 (v := (-1)) (by decide) dX13_compares_116 ?_
  refine J_ixor Z.1 dX13_compares_117 ?_
  refine J_iand Z.1 dX13_compares_118 ?_
  refine J_iload Z.1 0 dX13_compares_119 rfl ?_
  refine J_if_eq Z.1 130 dX13_compares_121 (by decide) (fun c5 => ?_) (fun c5 => ?_)
  · rw [if_pos c5] at hf
    refine J_iconst Z.1 (v := 0) (by decide) dX13_compares_130 ?_
    refine J_ior Z.1 dX13_compares_131 ?_
    obtain ⟨a1, rfl, hf⟩ := nn_i hf
    obtain ⟨t6, hf⟩ := tg_i hf
    obtain ⟨i7, hf⟩ := ix_i hf
    refine J_iastore Z.1 dX13_compares_132 t6 i7 ?_
    refine J_th (fun h8 eh8 => ?_)
    replace hf := lt_i hf h8 eh8
    cases hf
    exact J_vret Z.1 Z.2.2.2.2.2 dX13_compares_133
  · rw [if_neg c5] at hf
    refine J_iconst Z.1 (v := 1) (by decide) dX13_compares_124 ?_
    refine J_iload_n Z.1 2 dX13_compares_125 rfl rfl ?_
    refine J_ishl Z.1 dX13_compares_126 ?_
    refine J_goto Z.1 131 dX13_compares_127 (by decide) ?_
    refine J_ior Z.1 dX13_compares_131 ?_
    obtain ⟨a1, rfl, hf⟩ := nn_i hf
    obtain ⟨t9, hf⟩ := tg_i hf
    obtain ⟨i10, hf⟩ := ix_i hf
    refine J_iastore Z.1 dX13_compares_132 t9 i10 ?_
    refine J_th (fun h11 eh11 => ?_)
    replace hf := lt_i hf h11 eh11
    cases hf
    exact J_vret Z.1 Z.2.2.2.2.2 dX13_compares_133
def pX13_compares (g : MT) (h : CT) (this : Nat) (p1 : Int32) (p2 : Int32) : Option CT := tg g this 12 (bd (pX13_at g h this p1 0) fun x1 => (lt (hR h this 20) fun r3 => (bd (pX13_at g h this p1 1) fun x4 => (nn r3 fun a3 => (tg g a3 22 (ix (gL g a3) ((16 * x4) + p2) (lt (hD h a3 (Int32.toNatClampNeg ((16 * x4) + p2))) fun x8 => (lt (hR h this 20) fun r9 => (bd (pX13_at g h this p1 2) fun x10 => (nn r9 fun a9 => (tg g a9 22 (ix (gL g a9) ((16 * x10) + p2) (lt (hD h a9 (Int32.toNatClampNeg ((16 * x10) + p2))) fun x14 => (if x1 = 17 then if 0 ≤ (Op.cmpValue (FP.dcmp x8 x14) .g) then pX13_compares_b100 g this p1 p2  0 h else pX13_compares_b100 g this p1 p2  1 h else if x1 = 18 then if (Op.cmpValue (FP.dcmp x8 x14) .l) = 0 then pX13_compares_b100 g this p1 p2  1 h else pX13_compares_b100 g this p1 p2  0 h else if (Op.cmpValue (FP.dcmp x8 x8) .l) = 0 then pX13_compares_b100 g this p1 p2  0 h else pX13_compares_b100 g this p1 p2  1 h))))))))))))))
set_option maxRecDepth 10000 in
set_option maxHeartbeats 4000000 in
theorem pX13_compares_ok (G : Gx) (dk : Nat) (hK : 1 ≤ dk) {g : MT} {h h0 : CT} {this : Nat} {p1 : Int32} {p2 : Int32} (hf : pX13_compares g h this p1 p2 = some h0) : Ctr G dk yX13_compares cX13_compares 9 none [va_rf (some this), .int p1, .int p2] g h none g h0 := by
  refine Ctr.ofZ (lv := [(0, va_rf (some this)), (1, .int p1), (2, .int p2)]) (by decide +kernel) (by simp [cat_i, cat_l, cat_d, cat_rf]) rfl fun X Z => ?_
  unfold pX13_compares at hf
  obtain ⟨t0, hf⟩ := tg_i hf
  refine J_aload_n Z.1 0 dX13_compares_0 rfl rfl ?_
  refine J_iload_n Z.1 1 dX13_compares_1 rfl rfl ?_
  refine J_iconst Z.1 (v := 0) (by decide) dX13_compares_2 ?_
  obtain ⟨x1, q2, hf⟩ := bd_i hf
  refine J_callV (ci := 11) (as := [.int p1, .int 0]) (rest := []) (sy := [.int x1]) Z.1 dX13_compares_3 cw_X13_381 (pX13_at_ok G (dk - 1) (by omega) q2) rfl rfl t0 (zG Z) rfl (by decide) (zF Z (by omega)) (zO Z (by omega) (by decide)) (zM _) Z.2.1 Z.2.1 rfl rfl ?_
  refine J_istore_n Z.1 (lv2 := [(3, .int x1), (0, va_rf (some this)), (1, .int p1), (2, .int p2)]) dX13_compares_6 rfl (zL Z (by decide)) rfl ?_
  refine J_aload_n Z.1 1 dX13_compares_7 rfl rfl ?_
  refine J_get (v := va_rf (hR h this 20)) Z.1 dX13_compares_8 fl_X13_34 t0 rfl ?_
  refine J_tr (fun r3 er3 => ?_)
  replace hf := lt_i hf r3 er3
  refine J_bipush Z.1 (v := 16) (by decide) dX13_compares_11 ?_
  refine J_aload_n Z.1 1 dX13_compares_13 rfl rfl ?_
  refine J_iload_n Z.1 2 dX13_compares_14 rfl rfl ?_
  refine J_iconst Z.1 (v := 1) (by decide) dX13_compares_15 ?_
  obtain ⟨x4, q5, hf⟩ := bd_i hf
  refine J_callV (ci := 11) (as := [.int p1, .int 1]) (rest := [.int 16, va_rf r3]) (sy := [.int x4, .int 16, va_rf r3]) Z.1 dX13_compares_16 cw_X13_381 (pX13_at_ok G (dk - 1) (by omega) q5) rfl rfl t0 (zG Z) rfl (by simp [cat_i, cat_l, cat_d, cat_rf]) (zF Z (by omega)) (zO Z (by omega) (by decide)) (zM _) Z.2.1 Z.2.1 rfl rfl ?_
  refine J_imul Z.1 dX13_compares_19 ?_
  refine J_iload_n Z.1 3 dX13_compares_20 rfl rfl ?_
  refine J_iadd Z.1 dX13_compares_21 ?_
  obtain ⟨a3, rfl, hf⟩ := nn_i hf
  obtain ⟨t6, hf⟩ := tg_i hf
  obtain ⟨i7, hf⟩ := ix_i hf
  refine J_daload Z.1 dX13_compares_22 t6 i7 ?_
  refine J_td (fun x8 ex8 => ?_)
  replace hf := lt_i hf x8 ex8
  refine J_dstore Z.1 (lv2 := [(4, .double x8), (3, .int x1), (0, va_rf (some this)), (1, .int p1), (2, .int p2)]) dX13_compares_23 (zL Z (by decide)) rfl ?_
  refine J_aload_n Z.1 2 dX13_compares_25 rfl rfl ?_
  refine J_get (v := va_rf (hR h this 20)) Z.1 dX13_compares_26 fl_X13_34 t0 rfl ?_
  refine J_tr (fun r9 er9 => ?_)
  replace hf := lt_i hf r9 er9
  refine J_bipush Z.1 (v := 16) (by decide) dX13_compares_29 ?_
  refine J_aload_n Z.1 2 dX13_compares_31 rfl rfl ?_
  refine J_iload_n Z.1 3 dX13_compares_32 rfl rfl ?_
  refine J_iconst Z.1 (v := 2) (by decide) dX13_compares_33 ?_
  obtain ⟨x10, q11, hf⟩ := bd_i hf
  refine J_callV (ci := 11) (as := [.int p1, .int 2]) (rest := [.int 16, va_rf r9]) (sy := [.int x10, .int 16, va_rf r9]) Z.1 dX13_compares_34 cw_X13_381 (pX13_at_ok G (dk - 1) (by omega) q11) rfl rfl t0 (zG Z) rfl (by simp [cat_i, cat_l, cat_d, cat_rf]) (zF Z (by omega)) (zO Z (by omega) (by decide)) (zM _) Z.2.1 Z.2.1 rfl rfl ?_
  refine J_imul Z.1 dX13_compares_37 ?_
  refine J_iload_n Z.1 4 dX13_compares_38 rfl rfl ?_
  refine J_iadd Z.1 dX13_compares_39 ?_
  obtain ⟨a9, rfl, hf⟩ := nn_i hf
  obtain ⟨t12, hf⟩ := tg_i hf
  obtain ⟨i13, hf⟩ := ix_i hf
  refine J_daload Z.1 dX13_compares_40 t12 i13 ?_
  refine J_td (fun x14 ex14 => ?_)
  replace hf := lt_i hf x14 ex14
  refine J_dstore Z.1 (lv2 := [(6, .double x14), (4, .double x8), (3, .int x1), (0, va_rf (some this)), (1, .int p1), (2, .int p2)]) dX13_compares_41 (zL Z (by decide)) rfl ?_
  refine J_iload_n Z.1 2 dX13_compares_43 rfl rfl ?_
  refine J_bipush Z.1 (v := 17) (by decide) dX13_compares_44 ?_
  refine J_icmp_ne Z.1 65 dX13_compares_46 (by decide) (fun c15 => ?_) (fun c15 => ?_)
  · rw [if_neg c15] at hf
    refine J_iload_n Z.1 2 dX13_compares_65 rfl rfl ?_
    refine J_bipush Z.1 (v := 18) (by decide) dX13_compares_66 ?_
    refine J_icmp_ne Z.1 87 dX13_compares_68 (by decide) (fun c16 => ?_) (fun c16 => ?_)
    · rw [if_neg c16] at hf
      refine J_dload Z.1 1 dX13_compares_87 rfl ?_
      refine J_dload Z.1 1 dX13_compares_89 rfl ?_
      refine J_dcmp Z.1 dX13_compares_91 ?_
      refine J_if_eq Z.1 99 dX13_compares_92 (by decide) (fun c17 => ?_) (fun c17 => ?_)
      · rw [if_pos c17] at hf
        refine J_iconst Z.1 (v := 0) (by decide) dX13_compares_99 ?_
        refine J_lv [3, 5] rfl ?_
        exact pX13_compares_b100_ok Z hK t0  _ _ hf
      · rw [if_neg c17] at hf
        refine J_iconst Z.1 (v := 1) (by decide) dX13_compares_95 ?_
        refine J_goto Z.1 100 dX13_compares_96 (by decide) ?_
        refine J_lv [3, 5] rfl ?_
        exact pX13_compares_b100_ok Z hK t0  _ _ hf
    · rw [if_pos c16] at hf
      refine J_dload Z.1 1 dX13_compares_71 rfl ?_
      refine J_dload Z.1 0 dX13_compares_73 rfl ?_
      refine J_dcmp Z.1 dX13_compares_75 ?_
      refine J_if_ne Z.1 83 dX13_compares_76 (by decide) (fun c18 => ?_) (fun c18 => ?_)
      · rw [if_neg c18] at hf
        refine J_iconst Z.1 (v := 0) (by decide) dX13_compares_83 ?_
        refine J_goto Z.1 100 dX13_compares_84 (by decide) ?_
        refine J_lv [3, 5] rfl ?_
        exact pX13_compares_b100_ok Z hK t0  _ _ hf
      · rw [if_pos c18] at hf
        refine J_iconst Z.1 (v := 1) (by decide) dX13_compares_79 ?_
        refine J_goto Z.1 100 dX13_compares_80 (by decide) ?_
        refine J_lv [3, 5] rfl ?_
        exact pX13_compares_b100_ok Z hK t0  _ _ hf
  · rw [if_pos c15] at hf
    refine J_dload Z.1 1 dX13_compares_49 rfl ?_
    refine J_dload Z.1 0 dX13_compares_51 rfl ?_
    refine J_dcmp Z.1 dX13_compares_53 ?_
    refine J_if_ge Z.1 61 dX13_compares_54 (by decide) (fun c19 => ?_) (fun c19 => ?_)
    · rw [if_pos c19] at hf
      refine J_iconst Z.1 (v := 0) (by decide) dX13_compares_61 ?_
      refine J_goto Z.1 100 dX13_compares_62 (by decide) ?_
      refine J_lv [3, 5] rfl ?_
      exact pX13_compares_b100_ok Z hK t0  _ _ hf
    · rw [if_neg c19] at hf
      refine J_iconst Z.1 (v := 1) (by decide) dX13_compares_57 ?_
      refine J_goto Z.1 100 dX13_compares_58 (by decide) ?_
      refine J_lv [3, 5] rfl ?_
      exact pX13_compares_b100_ok Z hK t0  _ _ hf
theorem dX13_does_0 : decode cX13_does 0 = .ok (.aload_n 0, 1) := by decide +kernel
theorem dX13_does_1 : decode cX13_does 1 = .ok (.iload_n 1, 1) := by decide +kernel
theorem dX13_does_2 : decode cX13_does 2 = .ok (.iconst 0, 1) := by decide +kernel
theorem dX13_does_3 : decode cX13_does 3 = .ok (.invokevirtual 381, 3) := by decide +kernel
theorem dX13_does_6 : decode cX13_does 6 = .ok (.istore_n 3, 1) := by decide +kernel
theorem dX13_does_7 : decode cX13_does 7 = .ok (.aload_n 0, 1) := by decide +kernel
theorem dX13_does_8 : decode cX13_does 8 = .ok (.getfield 31, 3) := by decide +kernel
theorem dX13_does_11 : decode cX13_does 11 = .ok (.iconst 3, 1) := by decide +kernel
theorem dX13_does_12 : decode cX13_does 12 = .ok (.iaload, 1) := by decide +kernel
theorem dX13_does_13 : decode cX13_does 13 = .ok (.iload_n 2, 1) := by decide +kernel
theorem dX13_does_14 : decode cX13_does 14 = .ok (.invokestatic 287, 3) := by decide +kernel
theorem dX13_does_17 : decode cX13_does 17 = .ok (.istore 4, 2) := by decide +kernel
theorem dX13_does_19 : decode cX13_does 19 = .ok (.iload_n 3, 1) := by decide +kernel
theorem dX13_does_20 : decode cX13_does 20 = .ok (.invokestatic 363, 3) := by decide +kernel
theorem dX13_does_23 : decode cX13_does 23 = .ok (.ifCond .eq 38, 3) := by decide +kernel
theorem dX13_does_26 : decode cX13_does 26 = .ok (.aload_n 0, 1) := by decide +kernel
theorem dX13_does_27 : decode cX13_does 27 = .ok (.iload_n 1, 1) := by decide +kernel
theorem dX13_does_28 : decode cX13_does 28 = .ok (.bipush 6, 2) := by decide +kernel
theorem dX13_does_30 : decode cX13_does 30 = .ok (.invokevirtual 381, 3) := by decide +kernel
theorem dX13_does_33 : decode cX13_does 33 = .ok (.ifCond .eq 8, 3) := by decide +kernel
theorem dX13_does_36 : decode cX13_does 36 = .ok (.iload 4, 2) := by decide +kernel
theorem dX13_does_38 : decode cX13_does 38 = .ok (.ifCond .eq 124, 3) := by decide +kernel
theorem dX13_does_41 : decode cX13_does 41 = .ok (.aload_n 0, 1) := by decide +kernel
theorem dX13_does_42 : decode cX13_does 42 = .ok (.aload_n 0, 1) := by decide +kernel
theorem dX13_does_43 : decode cX13_does 43 = .ok (.iload_n 1, 1) := by decide +kernel
theorem dX13_does_44 : decode cX13_does 44 = .ok (.iconst 1, 1) := by decide +kernel
theorem dX13_does_45 : decode cX13_does 45 = .ok (.invokevirtual 381, 3) := by decide +kernel
theorem dX13_does_48 : decode cX13_does 48 = .ok (.iload_n 2, 1) := by decide +kernel
theorem dX13_does_49 : decode cX13_does 49 = .ok (.aload_n 0, 1) := by decide +kernel
theorem dX13_does_50 : decode cX13_does 50 = .ok (.iload_n 1, 1) := by decide +kernel
theorem dX13_does_51 : decode cX13_does 51 = .ok (.iload_n 2, 1) := by decide +kernel
theorem dX13_does_52 : decode cX13_does 52 = .ok (.invokevirtual 457, 3) := by decide +kernel
theorem dX13_does_55 : decode cX13_does 55 = .ok (.invokevirtual 461, 3) := by decide +kernel
theorem dX13_does_58 : decode cX13_does 58 = .ok (.goto 104, 3) := by decide +kernel
theorem dX13_does_61 : decode cX13_does 61 = .ok (.iload_n 3, 1) := by decide +kernel
theorem dX13_does_62 : decode cX13_does 62 = .ok (.invokestatic 360, 3) := by decide +kernel
theorem dX13_does_65 : decode cX13_does 65 = .ok (.ifCond .eq 36, 3) := by decide +kernel
theorem dX13_does_68 : decode cX13_does 68 = .ok (.aload_n 0, 1) := by decide +kernel
theorem dX13_does_69 : decode cX13_does 69 = .ok (.getfield 34, 3) := by decide +kernel
theorem dX13_does_72 : decode cX13_does 72 = .ok (.bipush 100, 2) := by decide +kernel
theorem dX13_does_74 : decode cX13_does 74 = .ok (.aload_n 0, 1) := by decide +kernel
theorem dX13_does_75 : decode cX13_does 75 = .ok (.iload_n 1, 1) := by decide +kernel
theorem dX13_does_76 : decode cX13_does 76 = .ok (.iload_n 2, 1) := by decide +kernel
theorem dX13_does_77 : decode cX13_does 77 = .ok (.invokevirtual 432, 3) := by decide +kernel
theorem dX13_does_80 : decode cX13_does 80 = .ok (.iadd, 1) := by decide +kernel
theorem dX13_does_81 : decode cX13_does 81 = .ok (.aload_n 0, 1) := by decide +kernel
theorem dX13_does_82 : decode cX13_does 82 = .ok (.getfield 34, 3) := by decide +kernel
theorem dX13_does_85 : decode cX13_does 85 = .ok (.bipush 16, 2) := by decide +kernel
theorem dX13_does_87 : decode cX13_does 87 = .ok (.aload_n 0, 1) := by decide +kernel
theorem dX13_does_88 : decode cX13_does 88 = .ok (.iload_n 1, 1) := by decide +kernel
theorem dX13_does_89 : decode cX13_does 89 = .ok (.iconst 1, 1) := by decide +kernel
theorem dX13_does_90 : decode cX13_does 90 = .ok (.invokevirtual 381, 3) := by decide +kernel
theorem dX13_does_93 : decode cX13_does 93 = .ok (.imul, 1) := by decide +kernel
theorem dX13_does_94 : decode cX13_does 94 = .ok (.iload_n 2, 1) := by decide +kernel
theorem dX13_does_95 : decode cX13_does 95 = .ok (.iadd, 1) := by decide +kernel
theorem dX13_does_96 : decode cX13_does 96 = .ok (.daload, 1) := by decide +kernel
theorem dX13_does_97 : decode cX13_does 97 = .ok (.dastore, 1) := by decide +kernel
theorem dX13_does_98 : decode cX13_does 98 = .ok (.goto 64, 3) := by decide +kernel
theorem dX13_does_101 : decode cX13_does 101 = .ok (.iload_n 3, 1) := by decide +kernel
theorem dX13_does_102 : decode cX13_does 102 = .ok (.invokestatic 354, 3) := by decide +kernel
theorem dX13_does_105 : decode cX13_does 105 = .ok (.ifCond .eq 12, 3) := by decide +kernel
theorem dX13_does_108 : decode cX13_does 108 = .ok (.aload_n 0, 1) := by decide +kernel
theorem dX13_does_109 : decode cX13_does 109 = .ok (.iload_n 1, 1) := by decide +kernel
theorem dX13_does_110 : decode cX13_does 110 = .ok (.iload_n 2, 1) := by decide +kernel
theorem dX13_does_111 : decode cX13_does 111 = .ok (.invokevirtual 465, 3) := by decide +kernel
theorem dX13_does_114 : decode cX13_does 114 = .ok (.goto 48, 3) := by decide +kernel
theorem dX13_does_117 : decode cX13_does 117 = .ok (.iload 4, 2) := by decide +kernel
theorem dX13_does_119 : decode cX13_does 119 = .ok (.ifCond .eq 43, 3) := by decide +kernel
theorem dX13_does_122 : decode cX13_does 122 = .ok (.aload_n 0, 1) := by decide +kernel
theorem dX13_does_123 : decode cX13_does 123 = .ok (.aload_n 0, 1) := by decide +kernel
theorem dX13_does_124 : decode cX13_does 124 = .ok (.iload_n 1, 1) := by decide +kernel
theorem dX13_does_125 : decode cX13_does 125 = .ok (.iconst 1, 1) := by decide +kernel
theorem dX13_does_126 : decode cX13_does 126 = .ok (.invokevirtual 381, 3) := by decide +kernel
theorem dX13_does_129 : decode cX13_does 129 = .ok (.aload_n 0, 1) := by decide +kernel
theorem dX13_does_130 : decode cX13_does 130 = .ok (.getfield 468, 3) := by decide +kernel
theorem dX13_does_133 : decode cX13_does 133 = .ok (.aload_n 0, 1) := by decide +kernel
theorem dX13_does_134 : decode cX13_does 134 = .ok (.getfield 34, 3) := by decide +kernel
theorem dX13_does_137 : decode cX13_does 137 = .ok (.bipush 16, 2) := by decide +kernel
theorem dX13_does_139 : decode cX13_does 139 = .ok (.aload_n 0, 1) := by decide +kernel
theorem dX13_does_140 : decode cX13_does 140 = .ok (.iload_n 1, 1) := by decide +kernel
theorem dX13_does_141 : decode cX13_does 141 = .ok (.iconst 2, 1) := by decide +kernel
theorem dX13_does_142 : decode cX13_does 142 = .ok (.invokevirtual 381, 3) := by decide +kernel
theorem dX13_does_145 : decode cX13_does 145 = .ok (.imul, 1) := by decide +kernel
theorem dX13_does_146 : decode cX13_does 146 = .ok (.iload_n 2, 1) := by decide +kernel
theorem dX13_does_147 : decode cX13_does 147 = .ok (.iadd, 1) := by decide +kernel
theorem dX13_does_148 : decode cX13_does 148 = .ok (.daload, 1) := by decide +kernel
theorem dX13_does_149 : decode cX13_does 149 = .ok (.invokevirtual 461, 3) := by decide +kernel
theorem dX13_does_152 : decode cX13_does 152 = .ok (.aload_n 0, 1) := by decide +kernel
theorem dX13_does_153 : decode cX13_does 153 = .ok (.dup, 1) := by decide +kernel
theorem dX13_does_154 : decode cX13_does 154 = .ok (.getfield 468, 3) := by decide +kernel
theorem dX13_does_157 : decode cX13_does 157 = .ok (.iconst 1, 1) := by decide +kernel
theorem dX13_does_158 : decode cX13_does 158 = .ok (.iadd, 1) := by decide +kernel
theorem dX13_does_159 : decode cX13_does 159 = .ok (.putfield 468, 3) := by decide +kernel
theorem dX13_does_162 : decode cX13_does 162 = .ok (.return_, 1) := by decide +kernel
def pX13_does_b41 (g : MT) (this : Nat) (p1 : Int32) (p2 : Int32) (h : CT) : Option CT := bd (pX13_at g h this p1 1) fun x1 => (bd (pX13_valueOf g h this p1 p2) fun x3 => (bd (pX13_comes g h this x1 p2 x3) fun h5 => (some h5)))
set_option maxRecDepth 10000 in
set_option maxHeartbeats 4000000 in
theorem pX13_does_b41_ok {X : Cx} {G : Gx} {dk : Nat} {g : MT} {h0 : CT} {this : Nat} {p1 : Int32} {p2 : Int32} (Z : Zx X G cX13_does RX13 5 dk none none g h0) (hK : 3 ≤ dk) (t0 : gT g this = 12) (h : CT) (hf : pX13_does_b41 g this p1 p2 h = some h0) : J X g h 41 [(0, va_rf (some this)), (1, .int p1), (2, .int p2)] [] := by
  unfold pX13_does_b41 at hf
  refine J_aload_n Z.1 0 dX13_does_41 rfl rfl ?_
  refine J_aload_n Z.1 0 dX13_does_42 rfl rfl ?_
  refine J_iload_n Z.1 1 dX13_does_43 rfl rfl ?_
  refine J_iconst Z.1 (v := 1) (by decide) dX13_does_44 ?_
  obtain ⟨x1, q2, hf⟩ := bd_i hf
  refine J_callV (ci := 11) (as := [.int p1, .int 1]) (rest := [va_rf (some this)]) (sy := [.int x1, va_rf (some this)]) Z.1 dX13_does_45 cw_X13_381 (pX13_at_ok G (dk - 1) (by omega) q2) rfl rfl t0 (zG Z) rfl (by simp [cat_i, cat_l, cat_d, cat_rf]) (zF Z (by omega)) (zO Z (by omega) (by decide)) (zM _) Z.2.1 Z.2.1 rfl rfl ?_
  refine J_iload_n Z.1 2 dX13_does_48 rfl rfl ?_
  refine J_aload_n Z.1 0 dX13_does_49 rfl rfl ?_
  refine J_iload_n Z.1 1 dX13_does_50 rfl rfl ?_
  refine J_iload_n Z.1 2 dX13_does_51 rfl rfl ?_
  obtain ⟨x3, q4, hf⟩ := bd_i hf
  refine J_callV (ci := 11) (as := [.int p1, .int p2]) (rest := [.int p2, .int x1, va_rf (some this)]) (sy := [.double x3, .int p2, .int x1, va_rf (some this)]) Z.1 dX13_does_52 cw_X13_457 (pX13_valueOf_ok G (dk - 1) (by omega) q4) rfl rfl t0 (zG Z) rfl (by simp [cat_i, cat_l, cat_d, cat_rf]) (zF Z (by omega)) (zO Z (by omega) (by decide)) (zM _) Z.2.1 Z.2.1 rfl rfl ?_
  obtain ⟨h5, q6, hf⟩ := bd_i hf
  refine J_callV (ci := 11) (as := [.int x1, .int p2, .double x3]) (rest := []) (sy := []) Z.1 dX13_does_55 cw_X13_461 (pX13_comes_ok G (dk - 1) (by omega) q6) rfl rfl t0 (zG Z) rfl (by decide) (zF Z (by omega)) (zO Z (by omega) (by decide)) (zM _) Z.2.1 Z.2.1 rfl rfl ?_
  refine J_goto Z.1 162 dX13_does_58 (by decide) ?_
  cases hf
  exact J_vret Z.1 Z.2.2.2.2.2 dX13_does_162
def pX13_does (g : MT) (h : CT) (this : Nat) (p1 : Int32) (p2 : Int32) : Option CT := tg g this 12 (bd (pX13_at g h this p1 0) fun x1 => (lt (hR h this 19) fun r3 => (nn r3 fun a3 => (tg g a3 20 (ix (gL g a3) 3 (lt (pX13_has (hI h a3 (Int32.toNatClampNeg 3)) p2) fun x6 => (if (pX13_writesD x1) = 0 then if (pX13_isMemory x1) = 0 then if (pX13_isCompared x1) = 0 then if x6 = 0 then some h else bd (pX13_at g h this p1 1) fun x11 => (lt (hR h this 20) fun r13 => (bd (pX13_at g h this p1 2) fun x14 => (nn r13 fun a13 => (tg g a13 22 (ix (gL g a13) ((16 * x14) + p2) (bd (pX13_comes g h this x11 (hI h this 42) (hD h a13 (Int32.toNatClampNeg ((16 * x14) + p2)))) fun h18 => (lt (sI h18 this 42 ((hI h18 this 42) + 1)) fun h20 => (some h20)))))))) else bd (pX13_compares g h this p1 p2) fun h21 => (some h21) else lt (hR h this 20) fun r23 => (bd (pX13_placeOf g h this p1 p2) fun x24 => (lt (hR h this 20) fun r26 => (bd (pX13_at g h this p1 1) fun x27 => (nn r26 fun a26 => (tg g a26 22 (ix (gL g a26) ((16 * x27) + p2) (nn r23 fun a23 => (tg g a23 22 (ix (gL g a23) (100 + x24) (lt (sD h a23 (Int32.toNatClampNeg (100 + x24)) (hD h a26 (Int32.toNatClampNeg ((16 * x27) + p2)))) fun h33 => (some h33))))))))))) else bd (pX13_at g h this p1 6) fun x34 => (if x34 = 0 then pX13_does_b41 g this p1 p2  h else if x6 = 0 then some h else pX13_does_b41 g this p1 p2  h))))))))
set_option maxRecDepth 10000 in
set_option maxHeartbeats 4000000 in
theorem pX13_does_ok (G : Gx) (dk : Nat) (hK : 3 ≤ dk) {g : MT} {h h0 : CT} {this : Nat} {p1 : Int32} {p2 : Int32} (hf : pX13_does g h this p1 p2 = some h0) : Ctr G dk yX13_does cX13_does 5 none [va_rf (some this), .int p1, .int p2] g h none g h0 := by
  refine Ctr.ofZ (lv := [(0, va_rf (some this)), (1, .int p1), (2, .int p2)]) (by decide +kernel) (by simp [cat_i, cat_l, cat_d, cat_rf]) rfl fun X Z => ?_
  unfold pX13_does at hf
  obtain ⟨t0, hf⟩ := tg_i hf
  refine J_aload_n Z.1 0 dX13_does_0 rfl rfl ?_
  refine J_iload_n Z.1 1 dX13_does_1 rfl rfl ?_
  refine J_iconst Z.1 (v := 0) (by decide) dX13_does_2 ?_
  obtain ⟨x1, q2, hf⟩ := bd_i hf
  refine J_callV (ci := 11) (as := [.int p1, .int 0]) (rest := []) (sy := [.int x1]) Z.1 dX13_does_3 cw_X13_381 (pX13_at_ok G (dk - 1) (by omega) q2) rfl rfl t0 (zG Z) rfl (by decide) (zF Z (by omega)) (zO Z (by omega) (by decide)) (zM _) Z.2.1 Z.2.1 rfl rfl ?_
  refine J_istore_n Z.1 (lv2 := [(3, .int x1), (0, va_rf (some this)), (1, .int p1), (2, .int p2)]) dX13_does_6 rfl (zL Z (by decide)) rfl ?_
  refine J_aload_n Z.1 1 dX13_does_7 rfl rfl ?_
  refine J_get (v := va_rf (hR h this 19)) Z.1 dX13_does_8 fl_X13_31 t0 rfl ?_
  refine J_tr (fun r3 er3 => ?_)
  replace hf := lt_i hf r3 er3
  refine J_iconst Z.1 (v := 3) (by decide) dX13_does_11 ?_
  obtain ⟨a3, rfl, hf⟩ := nn_i hf
  obtain ⟨t4, hf⟩ := tg_i hf
  obtain ⟨i5, hf⟩ := ix_i hf
  refine J_iaload Z.1 dX13_does_12 t4 i5 ?_
  refine J_iload_n Z.1 3 dX13_does_13 rfl rfl ?_
  refine J_callS (as := [.int (hI h a3 (Int32.toNatClampNeg 3)), .int p2]) (rest := []) (sy := [.int (pX13_has (hI h a3 (Int32.toNatClampNeg 3)) p2)]) Z.1 dX13_does_14 cw_X13_287 (pX13_has_ok G (dk - 1) (by omega) g h (hI h a3 (Int32.toNatClampNeg 3)) p2) (zG Z) rfl (by decide) (zF Z (by omega)) (zO Z (by omega) (by decide)) (zM _) Z.2.1 Z.2.1 rfl rfl ?_
  refine J_ti (fun x6 ex6 => ?_)
  replace hf := lt_i hf x6 ex6
  refine J_istore Z.1 (lv2 := [(4, .int x6), (3, .int x1), (0, va_rf (some this)), (1, .int p1), (2, .int p2)]) dX13_does_17 (zL Z (by decide)) rfl ?_
  refine J_iload_n Z.1 1 dX13_does_19 rfl rfl ?_
  refine J_callS (as := [.int x1]) (rest := []) (sy := [.int (pX13_writesD x1)]) Z.1 dX13_does_20 cw_X13_363 (pX13_writesD_ok G (dk - 1) (by omega) g h x1) (zG Z) rfl (by decide) (zF Z (by omega)) (zO Z (by omega) (by decide)) (zM _) Z.2.1 Z.2.1 rfl rfl ?_
  refine J_if_eq Z.1 61 dX13_does_23 (by decide) (fun c7 => ?_) (fun c7 => ?_)
  · rw [if_pos c7] at hf
    refine J_iload_n Z.1 1 dX13_does_61 rfl rfl ?_
    refine J_callS (as := [.int x1]) (rest := []) (sy := [.int (pX13_isMemory x1)]) Z.1 dX13_does_62 cw_X13_360 (pX13_isMemory_ok G (dk - 1) (by omega) g h x1) (zG Z) rfl (by decide) (zF Z (by omega)) (zO Z (by omega) (by decide)) (zM _) Z.2.1 Z.2.1 rfl rfl ?_
    refine J_if_eq Z.1 101 dX13_does_65 (by decide) (fun c8 => ?_) (fun c8 => ?_)
    · rw [if_pos c8] at hf
      refine J_iload_n Z.1 1 dX13_does_101 rfl rfl ?_
      refine J_callS (as := [.int x1]) (rest := []) (sy := [.int (pX13_isCompared x1)]) Z.1 dX13_does_102 cw_X13_354 (pX13_isCompared_ok G (dk - 1) (by omega) g h x1) (zG Z) rfl (by decide) (zF Z (by omega)) (zO Z (by omega) (by decide)) (zM _) Z.2.1 Z.2.1 rfl rfl ?_
      refine J_if_eq Z.1 117 dX13_does_105 (by decide) (fun c9 => ?_) (fun c9 => ?_)
      · rw [if_pos c9] at hf
        refine J_iload Z.1 0 dX13_does_117 rfl ?_
        refine J_if_eq Z.1 162 dX13_does_119 (by decide) (fun c10 => ?_) (fun c10 => ?_)
        · rw [if_pos c10] at hf
          cases hf
          exact J_vret Z.1 Z.2.2.2.2.2 dX13_does_162
        · rw [if_neg c10] at hf
          refine J_aload_n Z.1 2 dX13_does_122 rfl rfl ?_
          refine J_aload_n Z.1 2 dX13_does_123 rfl rfl ?_
          refine J_iload_n Z.1 3 dX13_does_124 rfl rfl ?_
          refine J_iconst Z.1 (v := 1) (by decide) dX13_does_125 ?_
          obtain ⟨x11, q12, hf⟩ := bd_i hf
          refine J_callV (ci := 11) (as := [.int p1, .int 1]) (rest := [va_rf (some this)]) (sy := [.int x11, va_rf (some this)]) Z.1 dX13_does_126 cw_X13_381 (pX13_at_ok G (dk - 1) (by omega) q12) rfl rfl t0 (zG Z) rfl (by simp [cat_i, cat_l, cat_d, cat_rf]) (zF Z (by omega)) (zO Z (by omega) (by decide)) (zM _) Z.2.1 Z.2.1 rfl rfl ?_
          refine J_aload_n Z.1 2 dX13_does_129 rfl rfl ?_
          refine J_get (v := .int (hI h this 42)) Z.1 dX13_does_130 fl_X13_468 t0 rfl ?_
          refine J_aload_n Z.1 2 dX13_does_133 rfl rfl ?_
          refine J_get (v := va_rf (hR h this 20)) Z.1 dX13_does_134 fl_X13_34 t0 rfl ?_
          refine J_tr (fun r13 er13 => ?_)
          replace hf := lt_i hf r13 er13
          refine J_bipush Z.1 (v := 16) (by decide) dX13_does_137 ?_
          refine J_aload_n Z.1 2 dX13_does_139 rfl rfl ?_
          refine J_iload_n Z.1 3 dX13_does_140 rfl rfl ?_
          refine J_iconst Z.1 (v := 2) (by decide) dX13_does_141 ?_
          obtain ⟨x14, q15, hf⟩ := bd_i hf
          refine J_callV (ci := 11) (as := [.int p1, .int 2]) (rest := [.int 16, va_rf r13, .int (hI h this 42), .int x11, va_rf (some this)]) (sy := [.int x14, .int 16, va_rf r13, .int (hI h this 42), .int x11, va_rf (some this)]) Z.1 dX13_does_142 cw_X13_381 (pX13_at_ok G (dk - 1) (by omega) q15) rfl rfl t0 (zG Z) rfl (by simp [cat_i, cat_l, cat_d, cat_rf]) (zF Z (by omega)) (zO Z (by omega) (by decide)) (zM _) Z.2.1 Z.2.1 rfl rfl ?_
          refine J_imul Z.1 dX13_does_145 ?_
          refine J_iload_n Z.1 4 dX13_does_146 rfl rfl ?_
          refine J_iadd Z.1 dX13_does_147 ?_
          obtain ⟨a13, rfl, hf⟩ := nn_i hf
          obtain ⟨t16, hf⟩ := tg_i hf
          obtain ⟨i17, hf⟩ := ix_i hf
          refine J_daload Z.1 dX13_does_148 t16 i17 ?_
          obtain ⟨h18, q19, hf⟩ := bd_i hf
          refine J_callV (ci := 11) (as := [.int x11, .int (hI h this 42), .double (hD h a13 (Int32.toNatClampNeg ((16 * x14) + p2)))]) (rest := []) (sy := []) Z.1 dX13_does_149 cw_X13_461 (pX13_comes_ok G (dk - 1) (by omega) q19) rfl rfl t0 (zG Z) rfl (by decide) (zF Z (by omega)) (zO Z (by omega) (by decide)) (zM _) Z.2.1 Z.2.1 rfl rfl ?_
          refine J_aload_n Z.1 2 dX13_does_152 rfl rfl ?_
          refine J_dup Z.1 dX13_does_153 rfl ?_
          refine J_get (v := .int (hI h18 this 42)) Z.1 dX13_does_154 fl_X13_468 t0 rfl ?_
          refine J_iconst Z.1 (v := 1) (by decide) dX13_does_157 ?_
          refine J_iadd Z.1 dX13_does_158 ?_
          refine J_putI Z.1 dX13_does_159 fl_X13_468 (fun q => by cases q) t0 rfl rfl (congrArg Value.int (hI_s _ _ _ _)) ?_
          refine J_th (fun h20 eh20 => ?_)
          replace hf := lt_i hf h20 eh20
          cases hf
          exact J_vret Z.1 Z.2.2.2.2.2 dX13_does_162
      · rw [if_neg c9] at hf
        refine J_aload_n Z.1 2 dX13_does_108 rfl rfl ?_
        refine J_iload_n Z.1 3 dX13_does_109 rfl rfl ?_
        refine J_iload_n Z.1 4 dX13_does_110 rfl rfl ?_
        obtain ⟨h21, q22, hf⟩ := bd_i hf
        refine J_callV (ci := 11) (as := [.int p1, .int p2]) (rest := []) (sy := []) Z.1 dX13_does_111 cw_X13_465 (pX13_compares_ok G (dk - 1) (by omega) q22) rfl rfl t0 (zG Z) rfl (by decide) (zF Z (by omega)) (zO Z (by omega) (by decide)) (zM _) Z.2.1 Z.2.1 rfl rfl ?_
        refine J_goto Z.1 162 dX13_does_114 (by decide) ?_
        cases hf
        exact J_vret Z.1 Z.2.2.2.2.2 dX13_does_162
    · rw [if_neg c8] at hf
      refine J_aload_n Z.1 2 dX13_does_68 rfl rfl ?_
      refine J_get (v := va_rf (hR h this 20)) Z.1 dX13_does_69 fl_X13_34 t0 rfl ?_
      refine J_tr (fun r23 er23 => ?_)
      replace hf := lt_i hf r23 er23
      refine J_bipush Z.1 (v := 100) (by decide) dX13_does_72 ?_
      refine J_aload_n Z.1 2 dX13_does_74 rfl rfl ?_
      refine J_iload_n Z.1 3 dX13_does_75 rfl rfl ?_
      refine J_iload_n Z.1 4 dX13_does_76 rfl rfl ?_
      obtain ⟨x24, q25, hf⟩ := bd_i hf
      refine J_callV (ci := 11) (as := [.int p1, .int p2]) (rest := [.int 100, va_rf r23]) (sy := [.int x24, .int 100, va_rf r23]) Z.1 dX13_does_77 cw_X13_432 (pX13_placeOf_ok G (dk - 1) (by omega) q25) rfl rfl t0 (zG Z) rfl (by simp [cat_i, cat_l, cat_d, cat_rf]) (zF Z (by omega)) (zO Z (by omega) (by decide)) (zM _) Z.2.1 Z.2.1 rfl rfl ?_
      refine J_iadd Z.1 dX13_does_80 ?_
      refine J_aload_n Z.1 2 dX13_does_81 rfl rfl ?_
      refine J_get (v := va_rf (hR h this 20)) Z.1 dX13_does_82 fl_X13_34 t0 rfl ?_
      refine J_tr (fun r26 er26 => ?_)
      replace hf := lt_i hf r26 er26
      refine J_bipush Z.1 (v := 16) (by decide) dX13_does_85 ?_
      refine J_aload_n Z.1 2 dX13_does_87 rfl rfl ?_
      refine J_iload_n Z.1 3 dX13_does_88 rfl rfl ?_
      refine J_iconst Z.1 (v := 1) (by decide) dX13_does_89 ?_
      obtain ⟨x27, q28, hf⟩ := bd_i hf
      refine J_callV (ci := 11) (as := [.int p1, .int 1]) (rest := [.int 16, va_rf r26, .int (100 + x24), va_rf r23]) (sy := [.int x27, .int 16, va_rf r26, .int (100 + x24), va_rf r23]) Z.1 dX13_does_90 cw_X13_381 (pX13_at_ok G (dk - 1) (by omega) q28) rfl rfl t0 (zG Z) rfl (by simp [cat_i, cat_l, cat_d, cat_rf]) (zF Z (by omega)) (zO Z (by omega) (by decide)) (zM _) Z.2.1 Z.2.1 rfl rfl ?_
      refine J_imul Z.1 dX13_does_93 ?_
      refine J_iload_n Z.1 4 dX13_does_94 rfl rfl ?_
      refine J_iadd Z.1 dX13_does_95 ?_
      obtain ⟨a26, rfl, hf⟩ := nn_i hf
      obtain ⟨t29, hf⟩ := tg_i hf
      obtain ⟨i30, hf⟩ := ix_i hf
      refine J_daload Z.1 dX13_does_96 t29 i30 ?_
      obtain ⟨a23, rfl, hf⟩ := nn_i hf
      obtain ⟨t31, hf⟩ := tg_i hf
      obtain ⟨i32, hf⟩ := ix_i hf
      refine J_dastore Z.1 dX13_does_97 t31 i32 ?_
      refine J_th (fun h33 eh33 => ?_)
      replace hf := lt_i hf h33 eh33
      refine J_goto Z.1 162 dX13_does_98 (by decide) ?_
      cases hf
      exact J_vret Z.1 Z.2.2.2.2.2 dX13_does_162
  · rw [if_neg c7] at hf
    refine J_aload_n Z.1 2 dX13_does_26 rfl rfl ?_
    refine J_iload_n Z.1 3 dX13_does_27 rfl rfl ?_
    refine J_bipush Z.1 (v := 6) (by decide) dX13_does_28 ?_
    obtain ⟨x34, q35, hf⟩ := bd_i hf
    refine J_callV (ci := 11) (as := [.int p1, .int 6]) (rest := []) (sy := [.int x34]) Z.1 dX13_does_30 cw_X13_381 (pX13_at_ok G (dk - 1) (by omega) q35) rfl rfl t0 (zG Z) rfl (by decide) (zF Z (by omega)) (zO Z (by omega) (by decide)) (zM _) Z.2.1 Z.2.1 rfl rfl ?_
    refine J_if_eq Z.1 41 dX13_does_33 (by decide) (fun c36 => ?_) (fun c36 => ?_)
    · rw [if_pos c36] at hf
      refine J_lv [2, 3, 4] rfl ?_
      exact pX13_does_b41_ok Z hK t0  _ hf
    · rw [if_neg c36] at hf
      refine J_iload Z.1 0 dX13_does_36 rfl ?_
      refine J_if_eq Z.1 162 dX13_does_38 (by decide) (fun c37 => ?_) (fun c37 => ?_)
      · rw [if_pos c37] at hf
        cases hf
        exact J_vret Z.1 Z.2.2.2.2.2 dX13_does_162
      · rw [if_neg c37] at hf
        refine J_lv [2, 3, 4] rfl ?_
        exact pX13_does_b41_ok Z hK t0  _ hf
theorem dX13_elements_0 : decode cX13_elements 0 = .ok (.aload_n 0, 1) := by decide +kernel
theorem dX13_elements_1 : decode cX13_elements 1 = .ok (.iload_n 1, 1) := by decide +kernel
theorem dX13_elements_2 : decode cX13_elements 2 = .ok (.iconst 0, 1) := by decide +kernel
theorem dX13_elements_3 : decode cX13_elements 3 = .ok (.invokevirtual 381, 3) := by decide +kernel
theorem dX13_elements_6 : decode cX13_elements 6 = .ok (.istore_n 3, 1) := by decide +kernel
theorem dX13_elements_7 : decode cX13_elements 7 = .ok (.iconst (-1), 1) := by decide +kernel
theorem dX13_elements_8 : decode cX13_elements 8 = .ok (.istore 4, 2) := by decide +kernel
theorem dX13_elements_10 : decode cX13_elements 10 = .ok (.aload_n 0, 1) := by decide +kernel
theorem dX13_elements_11 : decode cX13_elements 11 = .ok (.iconst 0, 1) := by decide +kernel
theorem dX13_elements_12 : decode cX13_elements 12 = .ok (.putfield 468, 3) := by decide +kernel
theorem dX13_elements_15 : decode cX13_elements 15 = .ok (.iconst 0, 1) := by decide +kernel
theorem dX13_elements_16 : decode cX13_elements 16 = .ok (.istore 5, 2) := by decide +kernel
theorem dX13_elements_18 : decode cX13_elements 18 = .ok (.iload 5, 2) := by decide +kernel
theorem dX13_elements_20 : decode cX13_elements 20 = .ok (.aload_n 0, 1) := by decide +kernel
theorem dX13_elements_21 : decode cX13_elements 21 = .ok (.getfield 31, 3) := by decide +kernel
theorem dX13_elements_24 : decode cX13_elements 24 = .ok (.iconst 0, 1) := by decide +kernel
theorem dX13_elements_25 : decode cX13_elements 25 = .ok (.iaload, 1) := by decide +kernel
theorem dX13_elements_26 : decode cX13_elements 26 = .ok (.if_icmp .ge 111, 3) := by decide +kernel
theorem dX13_elements_29 : decode cX13_elements 29 = .ok (.aload_n 0, 1) := by decide +kernel
theorem dX13_elements_30 : decode cX13_elements 30 = .ok (.iload_n 1, 1) := by decide +kernel
theorem dX13_elements_31 : decode cX13_elements 31 = .ok (.iload 5, 2) := by decide +kernel
theorem dX13_elements_33 : decode cX13_elements 33 = .ok (.invokevirtual 471, 3) := by decide +kernel
theorem dX13_elements_36 : decode cX13_elements 36 = .ok (.ifCond .ne 101, 3) := by decide +kernel
theorem dX13_elements_39 : decode cX13_elements 39 = .ok (.aload_n 0, 1) := by decide +kernel
theorem dX13_elements_40 : decode cX13_elements 40 = .ok (.iload_n 1, 1) := by decide +kernel
theorem dX13_elements_41 : decode cX13_elements 41 = .ok (.iload 5, 2) := by decide +kernel
theorem dX13_elements_43 : decode cX13_elements 43 = .ok (.iload_n 2, 1) := by decide +kernel
theorem dX13_elements_44 : decode cX13_elements 44 = .ok (.iload 4, 2) := by decide +kernel
theorem dX13_elements_46 : decode cX13_elements 46 = .ok (.invokevirtual 474, 3) := by decide +kernel
theorem dX13_elements_49 : decode cX13_elements 49 = .ok (.istore 4, 2) := by decide +kernel
theorem dX13_elements_51 : decode cX13_elements 51 = .ok (.aload_n 0, 1) := by decide +kernel
theorem dX13_elements_52 : decode cX13_elements 52 = .ok (.iload 4, 2) := by decide +kernel
theorem dX13_elements_54 : decode cX13_elements 54 = .ok (.invokevirtual 478, 3) := by decide +kernel
theorem dX13_elements_57 : decode cX13_elements 57 = .ok (.aload_n 0, 1) := by decide +kernel
theorem dX13_elements_58 : decode cX13_elements 58 = .ok (.iload_n 1, 1) := by decide +kernel
theorem dX13_elements_59 : decode cX13_elements 59 = .ok (.iload 5, 2) := by decide +kernel
theorem dX13_elements_61 : decode cX13_elements 61 = .ok (.iload 4, 2) := by decide +kernel
theorem dX13_elements_63 : decode cX13_elements 63 = .ok (.invokevirtual 481, 3) := by decide +kernel
theorem dX13_elements_66 : decode cX13_elements 66 = .ok (.aload_n 0, 1) := by decide +kernel
theorem dX13_elements_67 : decode cX13_elements 67 = .ok (.iload_n 1, 1) := by decide +kernel
theorem dX13_elements_68 : decode cX13_elements 68 = .ok (.iload 5, 2) := by decide +kernel
theorem dX13_elements_70 : decode cX13_elements 70 = .ok (.invokevirtual 484, 3) := by decide +kernel
theorem dX13_elements_73 : decode cX13_elements 73 = .ok (.iload_n 3, 1) := by decide +kernel
theorem dX13_elements_74 : decode cX13_elements 74 = .ok (.invokestatic 363, 3) := by decide +kernel
theorem dX13_elements_77 : decode cX13_elements 77 = .ok (.ifCond .ne 6, 3) := by decide +kernel
theorem dX13_elements_80 : decode cX13_elements 80 = .ok (.goto 51, 3) := by decide +kernel
theorem dX13_elements_83 : decode cX13_elements 83 = .ok (.aload_n 0, 1) := by decide +kernel
theorem dX13_elements_84 : decode cX13_elements 84 = .ok (.getfield 38, 3) := by decide +kernel
theorem dX13_elements_87 : decode cX13_elements 87 = .ok (.bipush 16, 2) := by decide +kernel
theorem dX13_elements_89 : decode cX13_elements 89 = .ok (.aload_n 0, 1) := by decide +kernel
theorem dX13_elements_90 : decode cX13_elements 90 = .ok (.iload_n 1, 1) := by decide +kernel
theorem dX13_elements_91 : decode cX13_elements 91 = .ok (.iconst 1, 1) := by decide +kernel
theorem dX13_elements_92 : decode cX13_elements 92 = .ok (.invokevirtual 381, 3) := by decide +kernel
theorem dX13_elements_95 : decode cX13_elements 95 = .ok (.imul, 1) := by decide +kernel
theorem dX13_elements_96 : decode cX13_elements 96 = .ok (.iload 5, 2) := by decide +kernel
theorem dX13_elements_98 : decode cX13_elements 98 = .ok (.iadd, 1) := by decide +kernel
theorem dX13_elements_99 : decode cX13_elements 99 = .ok (.iload 4, 2) := by decide +kernel
theorem dX13_elements_101 : decode cX13_elements 101 = .ok (.iload_n 3, 1) := by decide +kernel
theorem dX13_elements_102 : decode cX13_elements 102 = .ok (.invokestatic 395, 3) := by decide +kernel
theorem dX13_elements_105 : decode cX13_elements 105 = .ok (.invokestatic 438, 3) := by decide +kernel
theorem dX13_elements_108 : decode cX13_elements 108 = .ok (.iadd, 1) := by decide +kernel
theorem dX13_elements_109 : decode cX13_elements 109 = .ok (.iastore, 1) := by decide +kernel
theorem dX13_elements_110 : decode cX13_elements 110 = .ok (.aload_n 0, 1) := by decide +kernel
theorem dX13_elements_111 : decode cX13_elements 111 = .ok (.aload_n 0, 1) := by decide +kernel
theorem dX13_elements_112 : decode cX13_elements 112 = .ok (.getfield 38, 3) := by decide +kernel
theorem dX13_elements_115 : decode cX13_elements 115 = .ok (.bipush 16, 2) := by decide +kernel
theorem dX13_elements_117 : decode cX13_elements 117 = .ok (.aload_n 0, 1) := by decide +kernel
theorem dX13_elements_118 : decode cX13_elements 118 = .ok (.iload_n 1, 1) := by decide +kernel
theorem dX13_elements_119 : decode cX13_elements 119 = .ok (.iconst 1, 1) := by decide +kernel
theorem dX13_elements_120 : decode cX13_elements 120 = .ok (.invokevirtual 381, 3) := by decide +kernel
theorem dX13_elements_123 : decode cX13_elements 123 = .ok (.imul, 1) := by decide +kernel
theorem dX13_elements_124 : decode cX13_elements 124 = .ok (.iload 5, 2) := by decide +kernel
theorem dX13_elements_126 : decode cX13_elements 126 = .ok (.iadd, 1) := by decide +kernel
theorem dX13_elements_127 : decode cX13_elements 127 = .ok (.iaload, 1) := by decide +kernel
theorem dX13_elements_128 : decode cX13_elements 128 = .ok (.invokevirtual 478, 3) := by decide +kernel
theorem dX13_elements_131 : decode cX13_elements 131 = .ok (.iinc 5 1, 3) := by decide +kernel
theorem dX13_elements_134 : decode cX13_elements 134 = .ok (.goto (-116), 3) := by decide +kernel
theorem dX13_elements_137 : decode cX13_elements 137 = .ok (.iload 4, 2) := by decide +kernel
theorem dX13_elements_139 : decode cX13_elements 139 = .ok (.ireturn, 1) := by decide +kernel
def pX13_elements_b131 (g : MT) (this : Nat) (p1 : Int32) (p2 : Int32) (k18 : Int32 → Int32 → Int32 → CT → Option ((Int32) × CT)) (l3 : Int32) (l4 : Int32) (l5 : Int32) (h : CT) : Option ((Int32) × CT) := lt (l5 + 1) fun x1 => (k18 l3 l4 x1 h)
set_option maxRecDepth 10000 in
set_option maxHeartbeats 4000000 in
theorem pX13_elements_b131_ok {X : Cx} {G : Gx} {dk : Nat} {g : MT} {r0 : Int32} {h0 : CT} {this : Nat} {p1 : Int32} {p2 : Int32} {k18 : Int32 → Int32 → Int32 → CT → Option ((Int32) × CT)} (Z : Zx X G cX13_elements RX13 6 dk (some .int) (some (.int r0)) g h0) (hK : 4 ≤ dk) (t0 : gT g this = 12) (hk18 : ∀ (l3 : Int32) (l4 : Int32) (l5 : Int32) (h : CT), k18 l3 l4 l5 h = some (r0, h0) → J X g h 18 [(0, va_rf (some this)), (1, .int p1), (2, .int p2), (3, .int l3), (4, .int l4), (5, .int l5)] []) (l3 : Int32) (l4 : Int32) (l5 : Int32) (h : CT) (hf : pX13_elements_b131 g this p1 p2 k18 l3 l4 l5 h = some (r0, h0)) : J X g h 131 [(0, va_rf (some this)), (1, .int p1), (2, .int p2), (3, .int l3), (4, .int l4), (5, .int l5)] [] := by
  unfold pX13_elements_b131 at hf
  refine J_iinc Z.1 (v := 1) (lv2 := [(5, .int (l5 + 1)), (0, va_rf (some this)), (1, .int p1), (2, .int p2), (3, .int l3), (4, .int l4)]) 5 dX13_elements_131 rfl (by decide) (zL Z (by decide)) rfl ?_
  obtain ⟨x1, ex1⟩ : ∃ z, z = (l5 + 1) := ⟨_, rfl⟩
  replace hf := lt_i hf x1 ex1
  rw [← ex1]
  refine J_goto Z.1 18 dX13_elements_134 (by decide) ?_
  refine J_lv [1, 2, 3, 4, 5, 0] rfl ?_
  exact hk18 _ _ _ _ hf
def pX13_elements_b18 (g : MT) (this : Nat) (p1 : Int32) (p2 : Int32) (k18 : Int32 → Int32 → Int32 → CT → Option ((Int32) × CT)) (l3 : Int32) (l4 : Int32) (l5 : Int32) (h : CT) : Option ((Int32) × CT) := lt (hR h this 19) fun r1 => (nn r1 fun a1 => (tg g a1 20 (ix (gL g a1) 0 (if (hI h a1 (Int32.toNatClampNeg 0)) ≤ l5 then some (l4, h) else bd2 (pX13_isTrapped g h this p1 l5) fun x7 h5 => (if x7 = 0 then bd2 (pX13_takenAt g h5 this p1 l5 p2 l4) fun x11 h9 => (bd (pX13_lasts g h9 this x11) fun h12 => (bd (pX13_readsAll g h12 this p1 l5 x11) fun h14 => (bd (pX13_does g h14 this p1 l5) fun h16 => (if (pX13_writesD l3) = 0 then pX13_elements_b131 g this p1 p2 k18 l3 x11 l5 h16 else lt (hR h16 this 23) fun r19 => (bd (pX13_at g h16 this p1 1) fun x20 => (nn r19 fun a19 => (tg g a19 20 (ix (gL g a19) ((16 * x20) + l5) (lt (sI h16 a19 (Int32.toNatClampNeg ((16 * x20) + l5)) (x11 + (pX13_latencyOf (pX13_unitOf l3)))) fun h24 => (lt (hR h24 this 23) fun r25 => (bd (pX13_at g h24 this p1 1) fun x26 => (nn r25 fun a25 => (tg g a25 20 (ix (gL g a25) ((16 * x26) + l5) (bd (pX13_lasts g h24 this (hI h24 a25 (Int32.toNatClampNeg ((16 * x26) + l5)))) fun h30 => (pX13_elements_b131 g this p1 p2 k18 l3 x11 l5 h30)))))))))))))))) else some (l4, h5))))))
set_option maxRecDepth 10000 in
set_option maxHeartbeats 4000000 in
theorem pX13_elements_b18_ok {X : Cx} {G : Gx} {dk : Nat} {g : MT} {r0 : Int32} {h0 : CT} {this : Nat} {p1 : Int32} {p2 : Int32} {k18 : Int32 → Int32 → Int32 → CT → Option ((Int32) × CT)} (Z : Zx X G cX13_elements RX13 6 dk (some .int) (some (.int r0)) g h0) (hK : 4 ≤ dk) (t0 : gT g this = 12) (hk18 : ∀ (l3 : Int32) (l4 : Int32) (l5 : Int32) (h : CT), k18 l3 l4 l5 h = some (r0, h0) → J X g h 18 [(0, va_rf (some this)), (1, .int p1), (2, .int p2), (3, .int l3), (4, .int l4), (5, .int l5)] []) (l3 : Int32) (l4 : Int32) (l5 : Int32) (h : CT) (hf : pX13_elements_b18 g this p1 p2 k18 l3 l4 l5 h = some (r0, h0)) : J X g h 18 [(0, va_rf (some this)), (1, .int p1), (2, .int p2), (3, .int l3), (4, .int l4), (5, .int l5)] [] := by
  unfold pX13_elements_b18 at hf
  refine J_iload Z.1 5 dX13_elements_18 rfl ?_
  refine J_aload_n Z.1 0 dX13_elements_20 rfl rfl ?_
  refine J_get (v := va_rf (hR h this 19)) Z.1 dX13_elements_21 fl_X13_31 t0 rfl ?_
  refine J_tr (fun r1 er1 => ?_)
  replace hf := lt_i hf r1 er1
  refine J_iconst Z.1 (v := 0) (by decide) dX13_elements_24 ?_
  obtain ⟨a1, rfl, hf⟩ := nn_i hf
  obtain ⟨t2, hf⟩ := tg_i hf
  obtain ⟨i3, hf⟩ := ix_i hf
  refine J_iaload Z.1 dX13_elements_25 t2 i3 ?_
  refine J_icmp_ge Z.1 137 dX13_elements_26 (by decide) (fun c4 => ?_) (fun c4 => ?_)
  · rw [if_pos c4] at hf
    refine J_iload Z.1 4 dX13_elements_137 rfl ?_
    cases hf
    exact J_iret Z.1 Z.2.2.2.2.2 dX13_elements_139
  · rw [if_neg c4] at hf
    refine J_aload_n Z.1 0 dX13_elements_29 rfl rfl ?_
    refine J_iload_n Z.1 1 dX13_elements_30 rfl rfl ?_
    refine J_iload Z.1 5 dX13_elements_31 rfl ?_
    obtain ⟨x7, h5, q6, hf⟩ := bd2_i hf
    refine J_callV (ci := 11) (as := [.int p1, .int l5]) (rest := []) (sy := [.int x7]) Z.1 dX13_elements_33 cw_X13_471 (pX13_isTrapped_ok G (dk - 1) (by omega) q6) rfl rfl t0 (zG Z) rfl (by decide) (zF Z (by omega)) (zO Z (by omega) (by decide)) (zM _) Z.2.1 Z.2.1 rfl rfl ?_
    refine J_if_ne Z.1 137 dX13_elements_36 (by decide) (fun c8 => ?_) (fun c8 => ?_)
    · rw [if_neg c8] at hf
      refine J_iload Z.1 4 dX13_elements_137 rfl ?_
      cases hf
      exact J_iret Z.1 Z.2.2.2.2.2 dX13_elements_139
    · rw [if_pos c8] at hf
      refine J_aload_n Z.1 0 dX13_elements_39 rfl rfl ?_
      refine J_iload_n Z.1 1 dX13_elements_40 rfl rfl ?_
      refine J_iload Z.1 5 dX13_elements_41 rfl ?_
      refine J_iload_n Z.1 2 dX13_elements_43 rfl rfl ?_
      refine J_iload Z.1 4 dX13_elements_44 rfl ?_
      obtain ⟨x11, h9, q10, hf⟩ := bd2_i hf
      refine J_callV (ci := 11) (as := [.int p1, .int l5, .int p2, .int l4]) (rest := []) (sy := [.int x11]) Z.1 dX13_elements_46 cw_X13_474 (pX13_takenAt_ok G (dk - 1) (by omega) q10) rfl rfl t0 (zG Z) rfl (by decide) (zF Z (by omega)) (zO Z (by omega) (by decide)) (zM _) Z.2.1 Z.2.1 rfl rfl ?_
      refine J_istore Z.1 (lv2 := [(4, .int x11), (0, va_rf (some this)), (1, .int p1), (2, .int p2), (3, .int l3), (5, .int l5)]) dX13_elements_49 (zL Z (by decide)) rfl ?_
      refine J_aload_n Z.1 1 dX13_elements_51 rfl rfl ?_
      refine J_iload Z.1 0 dX13_elements_52 rfl ?_
      obtain ⟨h12, q13, hf⟩ := bd_i hf
      refine J_callV (ci := 11) (as := [.int x11]) (rest := []) (sy := []) Z.1 dX13_elements_54 cw_X13_478 (pX13_lasts_ok G (dk - 1) (by omega) q13) rfl rfl t0 (zG Z) rfl (by decide) (zF Z (by omega)) (zO Z (by omega) (by decide)) (zM _) Z.2.1 Z.2.1 rfl rfl ?_
      refine J_aload_n Z.1 1 dX13_elements_57 rfl rfl ?_
      refine J_iload_n Z.1 2 dX13_elements_58 rfl rfl ?_
      refine J_iload Z.1 5 dX13_elements_59 rfl ?_
      refine J_iload Z.1 0 dX13_elements_61 rfl ?_
      obtain ⟨h14, q15, hf⟩ := bd_i hf
      refine J_callV (ci := 11) (as := [.int p1, .int l5, .int x11]) (rest := []) (sy := []) Z.1 dX13_elements_63 cw_X13_481 (pX13_readsAll_ok G (dk - 1) (by omega) q15) rfl rfl t0 (zG Z) rfl (by decide) (zF Z (by omega)) (zO Z (by omega) (by decide)) (zM _) Z.2.1 Z.2.1 rfl rfl ?_
      refine J_aload_n Z.1 1 dX13_elements_66 rfl rfl ?_
      refine J_iload_n Z.1 2 dX13_elements_67 rfl rfl ?_
      refine J_iload Z.1 5 dX13_elements_68 rfl ?_
      obtain ⟨h16, q17, hf⟩ := bd_i hf
      refine J_callV (ci := 11) (as := [.int p1, .int l5]) (rest := []) (sy := []) Z.1 dX13_elements_70 cw_X13_484 (pX13_does_ok G (dk - 1) (by omega) q17) rfl rfl t0 (zG Z) rfl (by decide) (zF Z (by omega)) (zO Z (by omega) (by decide)) (zM _) Z.2.1 Z.2.1 rfl rfl ?_
      refine J_iload_n Z.1 4 dX13_elements_73 rfl rfl ?_
      refine J_callS (as := [.int l3]) (rest := []) (sy := [.int (pX13_writesD l3)]) Z.1 dX13_elements_74 cw_X13_363 (pX13_writesD_ok G (dk - 1) (by omega) g h16 l3) (zG Z) rfl (by decide) (zF Z (by omega)) (zO Z (by omega) (by decide)) (zM _) Z.2.1 Z.2.1 rfl rfl ?_
      refine J_if_ne Z.1 83 dX13_elements_77 (by decide) (fun c18 => ?_) (fun c18 => ?_)
      · rw [if_neg c18] at hf
        refine J_aload_n Z.1 1 dX13_elements_83 rfl rfl ?_
        refine J_get (v := va_rf (hR h16 this 23)) Z.1 dX13_elements_84 fl_X13_38 t0 rfl ?_
        refine J_tr (fun r19 er19 => ?_)
        replace hf := lt_i hf r19 er19
        refine J_bipush Z.1 (v := 16) (by decide) dX13_elements_87 ?_
        refine J_aload_n Z.1 1 dX13_elements_89 rfl rfl ?_
        refine J_iload_n Z.1 2 dX13_elements_90 rfl rfl ?_
        refine J_iconst Z.1 (v := 1) (by decide) dX13_elements_91 ?_
        obtain ⟨x20, q21, hf⟩ := bd_i hf
        refine J_callV (ci := 11) (as := [.int p1, .int 1]) (rest := [.int 16, va_rf r19]) (sy := [.int x20, .int 16, va_rf r19]) Z.1 dX13_elements_92 cw_X13_381 (pX13_at_ok G (dk - 1) (by omega) q21) rfl rfl t0 (zG Z) rfl (by simp [cat_i, cat_l, cat_d, cat_rf]) (zF Z (by omega)) (zO Z (by omega) (by decide)) (zM _) Z.2.1 Z.2.1 rfl rfl ?_
        refine J_imul Z.1 dX13_elements_95 ?_
        refine J_iload Z.1 5 dX13_elements_96 rfl ?_
        refine J_iadd Z.1 dX13_elements_98 ?_
        refine J_iload Z.1 0 dX13_elements_99 rfl ?_
        refine J_iload_n Z.1 4 dX13_elements_101 rfl rfl ?_
        refine J_callS (as := [.int l3]) (rest := [.int x11, .int ((16 * x20) + l5), va_rf r19]) (sy := [.int (pX13_unitOf l3), .int x11, .int ((16 * x20) + l5), va_rf r19]) Z.1 dX13_elements_102 cw_X13_395 (pX13_unitOf_ok G (dk - 1) (by omega) g h16 l3) (zG Z) rfl (by simp [cat_i, cat_l, cat_d, cat_rf]) (zF Z (by omega)) (zO Z (by omega) (by decide)) (zM _) Z.2.1 Z.2.1 rfl rfl ?_
        refine J_callS (as := [.int (pX13_unitOf l3)]) (rest := [.int x11, .int ((16 * x20) + l5), va_rf r19]) (sy := [.int (pX13_latencyOf (pX13_unitOf l3)), .int x11, .int ((16 * x20) + l5), va_rf r19]) Z.1 dX13_elements_105 cw_X13_438 (pX13_latencyOf_ok G (dk - 1) (by omega) g h16 (pX13_unitOf l3)) (zG Z) rfl (by simp [cat_i, cat_l, cat_d, cat_rf]) (zF Z (by omega)) (zO Z (by omega) (by decide)) (zM _) Z.2.1 Z.2.1 rfl rfl ?_
        refine J_iadd Z.1 dX13_elements_108 ?_
        obtain ⟨a19, rfl, hf⟩ := nn_i hf
        obtain ⟨t22, hf⟩ := tg_i hf
        obtain ⟨i23, hf⟩ := ix_i hf
        refine J_iastore Z.1 dX13_elements_109 t22 i23 ?_
        refine J_th (fun h24 eh24 => ?_)
        replace hf := lt_i hf h24 eh24
        refine J_aload_n Z.1 1 dX13_elements_110 rfl rfl ?_
        refine J_aload_n Z.1 1 dX13_elements_111 rfl rfl ?_
        refine J_get (v := va_rf (hR h24 this 23)) Z.1 dX13_elements_112 fl_X13_38 t0 rfl ?_
        refine J_tr (fun r25 er25 => ?_)
        replace hf := lt_i hf r25 er25
        refine J_bipush Z.1 (v := 16) (by decide) dX13_elements_115 ?_
        refine J_aload_n Z.1 1 dX13_elements_117 rfl rfl ?_
        refine J_iload_n Z.1 2 dX13_elements_118 rfl rfl ?_
        refine J_iconst Z.1 (v := 1) (by decide) dX13_elements_119 ?_
        obtain ⟨x26, q27, hf⟩ := bd_i hf
        refine J_callV (ci := 11) (as := [.int p1, .int 1]) (rest := [.int 16, va_rf r25, va_rf (some this)]) (sy := [.int x26, .int 16, va_rf r25, va_rf (some this)]) Z.1 dX13_elements_120 cw_X13_381 (pX13_at_ok G (dk - 1) (by omega) q27) rfl rfl t0 (zG Z) rfl (by simp [cat_i, cat_l, cat_d, cat_rf]) (zF Z (by omega)) (zO Z (by omega) (by decide)) (zM _) Z.2.1 Z.2.1 rfl rfl ?_
        refine J_imul Z.1 dX13_elements_123 ?_
        refine J_iload Z.1 5 dX13_elements_124 rfl ?_
        refine J_iadd Z.1 dX13_elements_126 ?_
        obtain ⟨a25, rfl, hf⟩ := nn_i hf
        obtain ⟨t28, hf⟩ := tg_i hf
        obtain ⟨i29, hf⟩ := ix_i hf
        refine J_iaload Z.1 dX13_elements_127 t28 i29 ?_
        obtain ⟨h30, q31, hf⟩ := bd_i hf
        refine J_callV (ci := 11) (as := [.int (hI h24 a25 (Int32.toNatClampNeg ((16 * x26) + l5)))]) (rest := []) (sy := []) Z.1 dX13_elements_128 cw_X13_478 (pX13_lasts_ok G (dk - 1) (by omega) q31) rfl rfl t0 (zG Z) rfl (by decide) (zF Z (by omega)) (zO Z (by omega) (by decide)) (zM _) Z.2.1 Z.2.1 rfl rfl ?_
        refine J_lv [1, 2, 3, 4, 0, 5] rfl ?_
        exact pX13_elements_b131_ok Z hK t0 hk18 _ _ _ _ hf
      · rw [if_pos c18] at hf
        refine J_goto Z.1 131 dX13_elements_80 (by decide) ?_
        refine J_lv [1, 2, 3, 4, 0, 5] rfl ?_
        exact pX13_elements_b131_ok Z hK t0 hk18 _ _ _ _ hf
def pX13_elements_l18 (g : MT) (this : Nat) (p1 : Int32) (p2 : Int32) : Nat → Int32 → Int32 → Int32 → CT → Option ((Int32) × CT)
  | 0, _, _, _, _ => none
  | n + 1, l3, l4, l5, h => pX13_elements_b18 g this p1 p2 (pX13_elements_l18 g this p1 p2 n) l3 l4 l5 h
theorem pX13_elements_l18_ok {X : Cx} {G : Gx} {dk : Nat} {g : MT} {r0 : Int32} {h0 : CT} {this : Nat} {p1 : Int32} {p2 : Int32} (Z : Zx X G cX13_elements RX13 6 dk (some .int) (some (.int r0)) g h0) (hK : 4 ≤ dk) (t0 : gT g this = 12) : ∀ (n : Nat) (l3 : Int32) (l4 : Int32) (l5 : Int32) (h : CT), pX13_elements_l18 g this p1 p2 n l3 l4 l5 h = some (r0, h0) → J X g h 18 [(0, va_rf (some this)), (1, .int p1), (2, .int p2), (3, .int l3), (4, .int l4), (5, .int l5)] [] := by
  intro n
  induction n with
  | zero => intro l3 l4 l5 h hf; cases hf
  | succ n ih => intro l3 l4 l5 h hf; exact pX13_elements_b18_ok Z hK t0 ih l3 l4 l5 h hf
def pX13_elements (g : MT) (h : CT) (this : Nat) (p1 : Int32) (p2 : Int32) : Option ((Int32) × CT) := tg g this 12 (bd (pX13_at g h this p1 0) fun x1 => (lt (sI h this 42 0) fun h3 => (pX13_elements_l18 g this p1 p2  FUEL x1 (-1) 0 h3)))
set_option maxRecDepth 10000 in
set_option maxHeartbeats 4000000 in
theorem pX13_elements_ok (G : Gx) (dk : Nat) (hK : 4 ≤ dk) {g : MT} {h h0 : CT} {this : Nat} {p1 : Int32} {p2 : Int32} {r0 : Int32} (hf : pX13_elements g h this p1 p2 = some (r0, h0)) : Ctr G dk yX13_elements cX13_elements 6 (some .int) [va_rf (some this), .int p1, .int p2] g h (some (.int r0)) g h0 := by
  refine Ctr.ofZ (lv := [(0, va_rf (some this)), (1, .int p1), (2, .int p2)]) (by decide +kernel) (by simp [cat_i, cat_l, cat_d, cat_rf]) rfl fun X Z => ?_
  unfold pX13_elements at hf
  obtain ⟨t0, hf⟩ := tg_i hf
  refine J_aload_n Z.1 0 dX13_elements_0 rfl rfl ?_
  refine J_iload_n Z.1 1 dX13_elements_1 rfl rfl ?_
  refine J_iconst Z.1 (v := 0) (by decide) dX13_elements_2 ?_
  obtain ⟨x1, q2, hf⟩ := bd_i hf
  refine J_callV (ci := 11) (as := [.int p1, .int 0]) (rest := []) (sy := [.int x1]) Z.1 dX13_elements_3 cw_X13_381 (pX13_at_ok G (dk - 1) (by omega) q2) rfl rfl t0 (zG Z) rfl (by decide) (zF Z (by omega)) (zO Z (by omega) (by decide)) (zM _) Z.2.1 Z.2.1 rfl rfl ?_
  refine J_istore_n Z.1 (lv2 := [(3, .int x1), (0, va_rf (some this)), (1, .int p1), (2, .int p2)]) dX13_elements_6 rfl (zL Z (by decide)) rfl ?_
  refine J_iconst Z.1 (v := (-1)) (by decide) dX13_elements_7 ?_
  refine J_istore Z.1 (lv2 := [(4, .int (-1)), (3, .int x1), (0, va_rf (some this)), (1, .int p1), (2, .int p2)]) dX13_elements_8 (zL Z (by decide)) rfl ?_
  refine J_aload_n Z.1 2 dX13_elements_10 rfl rfl ?_
  refine J_iconst Z.1 (v := 0) (by decide) dX13_elements_11 ?_
  refine J_putI Z.1 dX13_elements_12 fl_X13_468 (fun q => by cases q) t0 rfl rfl (congrArg Value.int (hI_s _ _ _ _)) ?_
  refine J_th (fun h3 eh3 => ?_)
  replace hf := lt_i hf h3 eh3
  refine J_iconst Z.1 (v := 0) (by decide) dX13_elements_15 ?_
  refine J_istore Z.1 (lv2 := [(5, .int 0), (4, .int (-1)), (3, .int x1), (0, va_rf (some this)), (1, .int p1), (2, .int p2)]) dX13_elements_16 (zL Z (by decide)) rfl ?_
  refine J_lv [3, 4, 5, 2, 1, 0] rfl ?_
  exact pX13_elements_l18_ok Z hK t0  FUEL _ _ _ _ hf
