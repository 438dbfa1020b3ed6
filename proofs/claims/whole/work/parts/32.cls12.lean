/-! written by wip/whole/gen.py out of the printed bytecode -/
theorem dX9_doAtOnce_0 : decode cX9_doAtOnce 0 = .ok (.getstatic 145, 3) := by decide +kernel
theorem dX9_doAtOnce_3 : decode cX9_doAtOnce 3 = .ok (.aload_n 2, 1) := by decide +kernel
theorem dX9_doAtOnce_4 : decode cX9_doAtOnce 4 = .ok (.getfield 84, 3) := by decide +kernel
theorem dX9_doAtOnce_7 : decode cX9_doAtOnce 7 = .ok (.invokevirtual 151, 3) := by decide +kernel
theorem dX9_doAtOnce_10 : decode cX9_doAtOnce 10 = .ok (.iaload, 1) := by decide +kernel
theorem dX9_doAtOnce_11 : decode cX9_doAtOnce 11 = .ok (.tableswitch 135 1 5 #[33, 46, 74, 128, 128], 33) := by decide +kernel
theorem dX9_doAtOnce_44 : decode cX9_doAtOnce 44 = .ok (.aload_n 0, 1) := by decide +kernel
theorem dX9_doAtOnce_45 : decode cX9_doAtOnce 45 = .ok (.getfield 34, 3) := by decide +kernel
theorem dX9_doAtOnce_48 : decode cX9_doAtOnce 48 = .ok (.aload_n 2, 1) := by decide +kernel
theorem dX9_doAtOnce_49 : decode cX9_doAtOnce 49 = .ok (.getfield 115, 3) := by decide +kernel
theorem dX9_doAtOnce_52 : decode cX9_doAtOnce 52 = .ok (.putfield 77, 3) := by decide +kernel
theorem dX9_doAtOnce_55 : decode cX9_doAtOnce 55 = .ok (.iconst 1, 1) := by decide +kernel
theorem dX9_doAtOnce_56 : decode cX9_doAtOnce 56 = .ok (.ireturn, 1) := by decide +kernel
theorem dX9_doAtOnce_57 : decode cX9_doAtOnce 57 = .ok (.aload_n 0, 1) := by decide +kernel
theorem dX9_doAtOnce_58 : decode cX9_doAtOnce 58 = .ok (.getfield 34, 3) := by decide +kernel
theorem dX9_doAtOnce_61 : decode cX9_doAtOnce 61 = .ok (.dup, 1) := by decide +kernel
theorem dX9_doAtOnce_62 : decode cX9_doAtOnce 62 = .ok (.getfield 154, 3) := by decide +kernel
theorem dX9_doAtOnce_65 : decode cX9_doAtOnce 65 = .ok (.aload_n 0, 1) := by decide +kernel
theorem dX9_doAtOnce_66 : decode cX9_doAtOnce 66 = .ok (.getfield 34, 3) := by decide +kernel
theorem dX9_doAtOnce_69 : decode cX9_doAtOnce 69 = .ok (.invokevirtual 157, 3) := by decide +kernel
theorem dX9_doAtOnce_72 : decode cX9_doAtOnce 72 = .ok (.ixor, 1) := by decide +kernel
theorem dX9_doAtOnce_73 : decode cX9_doAtOnce 73 = .ok (.putfield 154, 3) := by decide +kernel
theorem dX9_doAtOnce_76 : decode cX9_doAtOnce 76 = .ok (.aload_n 0, 1) := by decide +kernel
theorem dX9_doAtOnce_77 : decode cX9_doAtOnce 77 = .ok (.getfield 38, 3) := by decide +kernel
theorem dX9_doAtOnce_80 : decode cX9_doAtOnce 80 = .ok (.invokevirtual 160, 3) := by decide +kernel
theorem dX9_doAtOnce_83 : decode cX9_doAtOnce 83 = .ok (.iconst 1, 1) := by decide +kernel
theorem dX9_doAtOnce_84 : decode cX9_doAtOnce 84 = .ok (.ireturn, 1) := by decide +kernel
theorem dX9_doAtOnce_85 : decode cX9_doAtOnce 85 = .ok (.aload_n 0, 1) := by decide +kernel
theorem dX9_doAtOnce_86 : decode cX9_doAtOnce 86 = .ok (.getfield 27, 3) := by decide +kernel
theorem dX9_doAtOnce_89 : decode cX9_doAtOnce 89 = .ok (.aload_n 0, 1) := by decide +kernel
theorem dX9_doAtOnce_90 : decode cX9_doAtOnce 90 = .ok (.getfield 34, 3) := by decide +kernel
theorem dX9_doAtOnce_93 : decode cX9_doAtOnce 93 = .ok (.getfield 154, 3) := by decide +kernel
theorem dX9_doAtOnce_96 : decode cX9_doAtOnce 96 = .ok (.aload_n 0, 1) := by decide +kernel
theorem dX9_doAtOnce_97 : decode cX9_doAtOnce 97 = .ok (.getfield 34, 3) := by decide +kernel
theorem dX9_doAtOnce_100 : decode cX9_doAtOnce 100 = .ok (.invokevirtual 157, 3) := by decide +kernel
theorem dX9_doAtOnce_103 : decode cX9_doAtOnce 103 = .ok (.iand, 1) := by decide +kernel
theorem dX9_doAtOnce_104 : decode cX9_doAtOnce 104 = .ok (.invokestatic 163, 3) := by decide +kernel
theorem dX9_doAtOnce_107 : decode cX9_doAtOnce 107 = .ok (.i2d, 1) := by decide +kernel
theorem dX9_doAtOnce_108 : decode cX9_doAtOnce 108 = .ok (.invokevirtual 169, 3) := by decide +kernel
theorem dX9_doAtOnce_111 : decode cX9_doAtOnce 111 = .ok (.aload_n 0, 1) := by decide +kernel
theorem dX9_doAtOnce_112 : decode cX9_doAtOnce 112 = .ok (.getfield 34, 3) := by decide +kernel
theorem dX9_doAtOnce_115 : decode cX9_doAtOnce 115 = .ok (.getfield 173, 3) := by decide +kernel
theorem dX9_doAtOnce_118 : decode cX9_doAtOnce 118 = .ok (.aload_n 2, 1) := by decide +kernel
theorem dX9_doAtOnce_119 : decode cX9_doAtOnce 119 = .ok (.getfield 176, 3) := by decide +kernel
theorem dX9_doAtOnce_122 : decode cX9_doAtOnce 122 = .ok (.aload_n 0, 1) := by decide +kernel
theorem dX9_doAtOnce_123 : decode cX9_doAtOnce 123 = .ok (.getfield 27, 3) := by decide +kernel
theorem dX9_doAtOnce_126 : decode cX9_doAtOnce 126 = .ok (.invokevirtual 179, 3) := by decide +kernel
theorem dX9_doAtOnce_129 : decode cX9_doAtOnce 129 = .ok (.aload_n 0, 1) := by decide +kernel
theorem dX9_doAtOnce_130 : decode cX9_doAtOnce 130 = .ok (.getfield 38, 3) := by decide +kernel
theorem dX9_doAtOnce_133 : decode cX9_doAtOnce 133 = .ok (.iload_n 1, 1) := by decide +kernel
theorem dX9_doAtOnce_134 : decode cX9_doAtOnce 134 = .ok (.invokevirtual 183, 3) := by decide +kernel
theorem dX9_doAtOnce_137 : decode cX9_doAtOnce 137 = .ok (.iconst 1, 1) := by decide +kernel
theorem dX9_doAtOnce_138 : decode cX9_doAtOnce 138 = .ok (.ireturn, 1) := by decide +kernel
theorem dX9_doAtOnce_139 : decode cX9_doAtOnce 139 = .ok (.aload_n 0, 1) := by decide +kernel
theorem dX9_doAtOnce_140 : decode cX9_doAtOnce 140 = .ok (.iload_n 1, 1) := by decide +kernel
theorem dX9_doAtOnce_141 : decode cX9_doAtOnce 141 = .ok (.aload_n 2, 1) := by decide +kernel
theorem dX9_doAtOnce_142 : decode cX9_doAtOnce 142 = .ok (.invokevirtual 186, 3) := by decide +kernel
theorem dX9_doAtOnce_145 : decode cX9_doAtOnce 145 = .ok (.ireturn, 1) := by decide +kernel
theorem dX9_doAtOnce_146 : decode cX9_doAtOnce 146 = .ok (.iconst 1, 1) := by decide +kernel
theorem dX9_doAtOnce_147 : decode cX9_doAtOnce 147 = .ok (.ireturn, 1) := by decide +kernel
def pX9_doAtOnce (E : EC) (g : MT) (h : CT) (this : Nat) (p1 : Int32) (p2 : Nat) : Option ((Int32) × CT) := tg g this 8 (kR (E.1 2) fun a1 => (tg g p2 2 (lt (hR h p2 0) fun r3 => (nn r3 fun a3 => (tg E.2.2 a3 60 (bd (pJx29ce0_ordinal_8abf5 E g h a3) fun x5 => (tg E.2.2 a1 20 (ix (gL E.2.2 a1) x5 (lt (hI E.2.1 a1 (Int32.toNatClampNeg x5)) fun x9 => (if x9 = 1 then lt (hR h this 4) fun r11 => (nn r11 fun a11 => (tg g a11 3 (lt (sI h a11 5 (hI h p2 7)) fun h13 => (some (1, h13))))) else (if x9 = 2 then lt (hR h this 4) fun r15 => (nn r15 fun a15 => (tg g a15 3 (lt (hR h this 4) fun r17 => (nn r17 fun a17 => (tg g a17 3 (bd (pX3_lowBits g h a17) fun x19 => (lt (sI h a15 4 ((hI h a15 4) ^^^ x19)) fun h21 => (lt (hR h21 this 5) fun r22 => (nn r22 fun a22 => (tg g a22 9 (bd (pX10_flip g h21 a22) fun h24 => (some (1, h24))))))))))))) else (if x9 = 3 then lt (hR h this 2) fun r27 => (lt (hR h this 4) fun r28 => (nn r28 fun a28 => (tg g a28 3 (lt (hR h this 4) fun r30 => (nn r30 fun a30 => (tg g a30 3 (bd (pX3_lowBits g h a30) fun x32 => (nn r27 fun a27 => (tg g a27 4 (bd (pX4_set g h a27 (fi2d (pJ6_bitCount_0f7a4 ((hI h a28 4) &&& x32)))) fun h35 => (lt (hR h35 this 4) fun r37 => (nn r37 fun a37 => (tg g a37 3 (lt (hR h35 a37 2) fun r39 => (lt (hR h35 this 2) fun r40 => (nn r39 fun a39 => (tg g a39 7 (nn r40 fun a40 => (bd (pX8_keep g h35 a39 (hI h35 p2 4) a40) fun h42 => (lt (hR h42 this 5) fun r44 => (nn r44 fun a44 => (tg g a44 9 (bd (pX10_count g h42 a44 p1) fun h46 => (some (1, h46))))))))))))))))))))))))) else (if x9 = 4 then bd2 (pX9_doFold E g h this p1 p2) fun x51 h49 => (bz x51 (some (x51, h49))) else (if x9 = 5 then bd2 (pX9_doFold E g h this p1 p2) fun x56 h54 => (bz x56 (some (x56, h54))) else (some (1, h))))))))))))))))
set_option maxRecDepth 10000 in
set_option maxHeartbeats 4000000 in
theorem pX9_doAtOnce_ok (G : Gx) (dk : Nat) (hK : 4 ≤ dk) {g : MT} {E : EC} (hE : G.2.2.2 = E) {h h0 : CT} {this : Nat} {p1 : Int32} {p2 : Nat} {r0 : Int32} (hf : pX9_doAtOnce E g h this p1 p2 = some (r0, h0)) : Ctr G dk yX9_doAtOnce cX9_doAtOnce 3 (some .boolean) [va_rf (some this), .int p1, va_rf (some p2)] g h (some (.int r0)) g h0 := by
  refine Ctr.ofZ (lv := [(0, va_rf (some this)), (1, .int p1), (2, va_rf (some p2))]) (by decide +kernel) (by simp [cat_i, cat_l, cat_d, cat_rf]) rfl fun X Z => ?_
  unfold pX9_doAtOnce at hf
  replace hf := tg_i hf
  obtain ⟨t0, hf⟩ := hf
  replace hf := kR_i hf
  obtain ⟨a1, ea1, hf⟩ := hf
  refine J_gets (i := 2) (v := va_rf (some a1)) Z.1 dX9_doAtOnce_0 rfl q_1029 (zEv Z hE ea1) rfl ?_
  refine J_aload_n Z.1 2 dX9_doAtOnce_3 rfl rfl ?_
  replace hf := tg_i hf
  obtain ⟨t2, hf⟩ := hf
  refine J_get (v := va_rf (hR h p2 0)) Z.1 dX9_doAtOnce_4 fl_X9_84 t2 rfl ?_
  refine J_tr (fun r3 er3 => ?_)
  replace hf := lt_i hf r3 er3
  replace hf := nn_i hf
  obtain ⟨a3, rfl, hf⟩ := hf
  replace hf := tg_i hf
  obtain ⟨t4, hf⟩ := hf
  rw [← zE Z hE] at t4
  replace hf := bd_i hf
  obtain ⟨x5, q6, hf⟩ := hf
  refine J_callU (as := []) (rest := [va_rf (some a1)]) (sy := [.int x5, va_rf (some a1)]) (x := ⟨RX5, "ordinal", "()I"⟩) (C := RX5) (owner := "java/lang/Enum") Z.1 dX9_doAtOnce_7 uw_X9_151 rfl ⟨by decide +kernel, by decide +kernel, by decide +kernel⟩ (pJx29ce0_ordinal_8abf5_ok G (dk - 1) (by omega) hE q6) (kO Z.1 t4) (zG Z) rfl (by simp [cat_i, cat_l, cat_d, cat_rf]) (zF Z (by omega)) (zO Z (by omega) (by decide)) (zM _) Z.2.1 Z.2.1 rfl rfl ?_
  replace hf := tg_i hf
  obtain ⟨t7, hf⟩ := hf
  rw [← zE Z hE] at t7
  replace hf := ix_i hf
  obtain ⟨i8, hf⟩ := hf
  refine J_ialdK Z.1 dX9_doAtOnce_10 t7 (by rw [zE Z hE]; exact i8) ?_
  rw [zE Z hE]
  refine J_ti (fun x9 ex9 => ?_)
  replace hf := lt_i hf x9 ex9
  by_cases c10 : x9 = 1
  · rw [if_pos c10] at hf
    refine J_tabIn (off := 33) Z.1 44 dX9_doAtOnce_11 (by rw [c10]; decide) (by rw [c10]; decide) (by rw [c10]; decide) (by decide) ?_
    refine J_aload_n Z.1 0 dX9_doAtOnce_44 rfl rfl ?_
    refine J_get (v := va_rf (hR h this 4)) Z.1 dX9_doAtOnce_45 fl_X9_34 t0 rfl ?_
    refine J_tr (fun r11 er11 => ?_)
    replace hf := lt_i hf r11 er11
    refine J_aload_n Z.1 2 dX9_doAtOnce_48 rfl rfl ?_
    refine J_get (v := .int (hI h p2 7)) Z.1 dX9_doAtOnce_49 fl_X9_115 t2 rfl ?_
    replace hf := nn_i hf
    obtain ⟨a11, rfl, hf⟩ := hf
    replace hf := tg_i hf
    obtain ⟨t12, hf⟩ := hf
    refine J_putI Z.1 dX9_doAtOnce_52 fl_X9_77 (fun q => by cases q) t12 rfl rfl (congrArg Value.int (hI_s _ _ _ _)) ?_
    refine J_th (fun h13 eh13 => ?_)
    replace hf := lt_i hf h13 eh13
    refine J_iconst Z.1 (v := 1) (by decide) dX9_doAtOnce_55 ?_
    cases hf
    exact J_zret Z.1 Z.2.2.2.2.2 (z_n (Or.inr rfl)) dX9_doAtOnce_56
  rw [if_neg c10] at hf
  by_cases c14 : x9 = 2
  · rw [if_pos c14] at hf
    refine J_tabIn (off := 46) Z.1 57 dX9_doAtOnce_11 (by rw [c14]; decide) (by rw [c14]; decide) (by rw [c14]; decide) (by decide) ?_
    refine J_aload_n Z.1 0 dX9_doAtOnce_57 rfl rfl ?_
    refine J_get (v := va_rf (hR h this 4)) Z.1 dX9_doAtOnce_58 fl_X9_34 t0 rfl ?_
    refine J_tr (fun r15 er15 => ?_)
    replace hf := lt_i hf r15 er15
    refine J_dup Z.1 dX9_doAtOnce_61 (by simp [cat_i, cat_l, cat_d, cat_rf]) ?_
    replace hf := nn_i hf
    obtain ⟨a15, rfl, hf⟩ := hf
    replace hf := tg_i hf
    obtain ⟨t16, hf⟩ := hf
    refine J_get (v := .int (hI h a15 4)) Z.1 dX9_doAtOnce_62 fl_X9_154 t16 rfl ?_
    refine J_aload_n Z.1 0 dX9_doAtOnce_65 rfl rfl ?_
    refine J_get (v := va_rf (hR h this 4)) Z.1 dX9_doAtOnce_66 fl_X9_34 t0 rfl ?_
    refine J_tr (fun r17 er17 => ?_)
    replace hf := lt_i hf r17 er17
    replace hf := nn_i hf
    obtain ⟨a17, rfl, hf⟩ := hf
    replace hf := tg_i hf
    obtain ⟨t18, hf⟩ := hf
    replace hf := bd_i hf
    obtain ⟨x19, q20, hf⟩ := hf
    refine J_callV (ci := 2) (as := []) (rest := [.int (hI h a15 4), va_rf (some a15)]) (sy := [.int x19, .int (hI h a15 4), va_rf (some a15)]) Z.1 dX9_doAtOnce_69 cw_X9_157 (pX3_lowBits_ok G (dk - 1) (by omega) q20) rfl rfl t18 (zG Z) rfl (by simp [cat_i, cat_l, cat_d, cat_rf]) (zF Z (by omega)) (zO Z (by omega) (by decide)) (zM _) Z.2.1 Z.2.1 rfl rfl ?_
    refine J_ixor Z.1 dX9_doAtOnce_72 ?_
    refine J_putI Z.1 dX9_doAtOnce_73 fl_X9_154 (fun q => by cases q) t16 rfl rfl (congrArg Value.int (hI_s _ _ _ _)) ?_
    refine J_th (fun h21 eh21 => ?_)
    replace hf := lt_i hf h21 eh21
    refine J_aload_n Z.1 0 dX9_doAtOnce_76 rfl rfl ?_
    refine J_get (v := va_rf (hR h21 this 5)) Z.1 dX9_doAtOnce_77 fl_X9_38 t0 rfl ?_
    refine J_tr (fun r22 er22 => ?_)
    replace hf := lt_i hf r22 er22
    replace hf := nn_i hf
    obtain ⟨a22, rfl, hf⟩ := hf
    replace hf := tg_i hf
    obtain ⟨t23, hf⟩ := hf
    replace hf := bd_i hf
    obtain ⟨h24, q25, hf⟩ := hf
    refine J_callV (ci := 8) (as := []) (rest := []) (sy := []) Z.1 dX9_doAtOnce_80 cw_X9_160 (pX10_flip_ok G (dk - 1) (by omega) q25) rfl rfl t23 (zG Z) rfl (by decide) (zF Z (by omega)) (zO Z (by omega) (by decide)) (zM _) Z.2.1 Z.2.1 rfl rfl ?_
    refine J_iconst Z.1 (v := 1) (by decide) dX9_doAtOnce_83 ?_
    cases hf
    exact J_zret Z.1 Z.2.2.2.2.2 (z_n (Or.inr rfl)) dX9_doAtOnce_84
  rw [if_neg c14] at hf
  by_cases c26 : x9 = 3
  · rw [if_pos c26] at hf
    refine J_tabIn (off := 74) Z.1 85 dX9_doAtOnce_11 (by rw [c26]; decide) (by rw [c26]; decide) (by rw [c26]; decide) (by decide) ?_
    refine J_aload_n Z.1 0 dX9_doAtOnce_85 rfl rfl ?_
    refine J_get (v := va_rf (hR h this 2)) Z.1 dX9_doAtOnce_86 fl_X9_27 t0 rfl ?_
    refine J_tr (fun r27 er27 => ?_)
    replace hf := lt_i hf r27 er27
    refine J_aload_n Z.1 0 dX9_doAtOnce_89 rfl rfl ?_
    refine J_get (v := va_rf (hR h this 4)) Z.1 dX9_doAtOnce_90 fl_X9_34 t0 rfl ?_
    refine J_tr (fun r28 er28 => ?_)
    replace hf := lt_i hf r28 er28
    replace hf := nn_i hf
    obtain ⟨a28, rfl, hf⟩ := hf
    replace hf := tg_i hf
    obtain ⟨t29, hf⟩ := hf
    refine J_get (v := .int (hI h a28 4)) Z.1 dX9_doAtOnce_93 fl_X9_154 t29 rfl ?_
    refine J_aload_n Z.1 0 dX9_doAtOnce_96 rfl rfl ?_
    refine J_get (v := va_rf (hR h this 4)) Z.1 dX9_doAtOnce_97 fl_X9_34 t0 rfl ?_
    refine J_tr (fun r30 er30 => ?_)
    replace hf := lt_i hf r30 er30
    replace hf := nn_i hf
    obtain ⟨a30, rfl, hf⟩ := hf
    replace hf := tg_i hf
    obtain ⟨t31, hf⟩ := hf
    replace hf := bd_i hf
    obtain ⟨x32, q33, hf⟩ := hf
    refine J_callV (ci := 2) (as := []) (rest := [.int (hI h a28 4), va_rf r27]) (sy := [.int x32, .int (hI h a28 4), va_rf r27]) Z.1 dX9_doAtOnce_100 cw_X9_157 (pX3_lowBits_ok G (dk - 1) (by omega) q33) rfl rfl t31 (zG Z) rfl (by simp [cat_i, cat_l, cat_d, cat_rf]) (zF Z (by omega)) (zO Z (by omega) (by decide)) (zM _) Z.2.1 Z.2.1 rfl rfl ?_
    refine J_iand Z.1 dX9_doAtOnce_103 ?_
    refine J_callS (as := [.int ((hI h a28 4) &&& x32)]) (rest := [va_rf r27]) (sy := [.int (pJ6_bitCount_0f7a4 ((hI h a28 4) &&& x32)), va_rf r27]) Z.1 dX9_doAtOnce_104 cw_X9_163 (pJ6_bitCount_0f7a4_ok G (dk - 1) (by omega) g h ((hI h a28 4) &&& x32)) (zG Z) rfl (by simp [cat_i, cat_l, cat_d, cat_rf]) (zF Z (by omega)) (zO Z (by omega) (by decide)) (zM _) Z.2.1 Z.2.1 rfl rfl ?_
    refine J_i2d Z.1 dX9_doAtOnce_107 ?_
    replace hf := nn_i hf
    obtain ⟨a27, rfl, hf⟩ := hf
    replace hf := tg_i hf
    obtain ⟨t34, hf⟩ := hf
    replace hf := bd_i hf
    obtain ⟨h35, q36, hf⟩ := hf
    refine J_callV (ci := 3) (as := [.double (fi2d (pJ6_bitCount_0f7a4 ((hI h a28 4) &&& x32)))]) (rest := []) (sy := []) Z.1 dX9_doAtOnce_108 cw_X9_169 (pX4_set_ok G (dk - 1) (by omega) q36) rfl rfl t34 (zG Z) rfl (by decide) (zF Z (by omega)) (zO Z (by omega) (by decide)) (zM _) Z.2.1 Z.2.1 rfl rfl ?_
    refine J_aload_n Z.1 0 dX9_doAtOnce_111 rfl rfl ?_
    refine J_get (v := va_rf (hR h35 this 4)) Z.1 dX9_doAtOnce_112 fl_X9_34 t0 rfl ?_
    refine J_tr (fun r37 er37 => ?_)
    replace hf := lt_i hf r37 er37
    replace hf := nn_i hf
    obtain ⟨a37, rfl, hf⟩ := hf
    replace hf := tg_i hf
    obtain ⟨t38, hf⟩ := hf
    refine J_get (v := va_rf (hR h35 a37 2)) Z.1 dX9_doAtOnce_115 fl_X9_173 t38 rfl ?_
    refine J_tr (fun r39 er39 => ?_)
    replace hf := lt_i hf r39 er39
    refine J_aload_n Z.1 2 dX9_doAtOnce_118 rfl rfl ?_
    refine J_get (v := .int (hI h35 p2 4)) Z.1 dX9_doAtOnce_119 fl_X9_176 t2 rfl ?_
    refine J_aload_n Z.1 0 dX9_doAtOnce_122 rfl rfl ?_
    refine J_get (v := va_rf (hR h35 this 2)) Z.1 dX9_doAtOnce_123 fl_X9_27 t0 rfl ?_
    refine J_tr (fun r40 er40 => ?_)
    replace hf := lt_i hf r40 er40
    replace hf := nn_i hf
    obtain ⟨a39, rfl, hf⟩ := hf
    replace hf := tg_i hf
    obtain ⟨t41, hf⟩ := hf
    replace hf := nn_i hf
    obtain ⟨a40, rfl, hf⟩ := hf
    replace hf := bd_i hf
    obtain ⟨h42, q43, hf⟩ := hf
    refine J_callV (ci := 6) (as := [.int (hI h35 p2 4), va_rf (some a40)]) (rest := []) (sy := []) Z.1 dX9_doAtOnce_126 cw_X9_179 (pX8_keep_ok G (dk - 1) (by omega) q43) rfl rfl t41 (zG Z) rfl (by decide) (zF Z (by omega)) (zO Z (by omega) (by decide)) (zM _) Z.2.1 Z.2.1 rfl rfl ?_
    refine J_aload_n Z.1 0 dX9_doAtOnce_129 rfl rfl ?_
    refine J_get (v := va_rf (hR h42 this 5)) Z.1 dX9_doAtOnce_130 fl_X9_38 t0 rfl ?_
    refine J_tr (fun r44 er44 => ?_)
    replace hf := lt_i hf r44 er44
    refine J_iload_n Z.1 1 dX9_doAtOnce_133 rfl rfl ?_
    replace hf := nn_i hf
    obtain ⟨a44, rfl, hf⟩ := hf
    replace hf := tg_i hf
    obtain ⟨t45, hf⟩ := hf
    replace hf := bd_i hf
    obtain ⟨h46, q47, hf⟩ := hf
    refine J_callV (ci := 8) (as := [.int p1]) (rest := []) (sy := []) Z.1 dX9_doAtOnce_134 cw_X9_183 (pX10_count_ok G (dk - 1) (by omega) q47) rfl rfl t45 (zG Z) rfl (by decide) (zF Z (by omega)) (zO Z (by omega) (by decide)) (zM _) Z.2.1 Z.2.1 rfl rfl ?_
    refine J_iconst Z.1 (v := 1) (by decide) dX9_doAtOnce_137 ?_
    cases hf
    exact J_zret Z.1 Z.2.2.2.2.2 (z_n (Or.inr rfl)) dX9_doAtOnce_138
  rw [if_neg c26] at hf
  by_cases c48 : x9 = 4
  · rw [if_pos c48] at hf
    refine J_tabIn (off := 128) Z.1 139 dX9_doAtOnce_11 (by rw [c48]; decide) (by rw [c48]; decide) (by rw [c48]; decide) (by decide) ?_
    refine J_aload_n Z.1 0 dX9_doAtOnce_139 rfl rfl ?_
    refine J_iload_n Z.1 1 dX9_doAtOnce_140 rfl rfl ?_
    refine J_aload_n Z.1 2 dX9_doAtOnce_141 rfl rfl ?_
    replace hf := bd2_i hf
    obtain ⟨x51, h49, q50, hf⟩ := hf
    refine J_callV (ci := 7) (as := [.int p1, va_rf (some p2)]) (rest := []) (sy := [.int x51]) Z.1 dX9_doAtOnce_142 cw_X9_186 (pX9_doFold_ok G (dk - 1) (by omega) hE q50) rfl rfl t0 (zG Z) rfl (by decide) (zF Z (by omega)) (zO Z (by omega) (by decide)) (zM _) Z.2.1 Z.2.1 rfl rfl ?_
    replace hf := bz_i hf
    obtain ⟨z52, hf⟩ := hf
    cases hf
    exact J_zret Z.1 Z.2.2.2.2.2 (z_n z52) dX9_doAtOnce_145
  rw [if_neg c48] at hf
  by_cases c53 : x9 = 5
  · rw [if_pos c53] at hf
    refine J_tabIn (off := 128) Z.1 139 dX9_doAtOnce_11 (by rw [c53]; decide) (by rw [c53]; decide) (by rw [c53]; decide) (by decide) ?_
    refine J_aload_n Z.1 0 dX9_doAtOnce_139 rfl rfl ?_
    refine J_iload_n Z.1 1 dX9_doAtOnce_140 rfl rfl ?_
    refine J_aload_n Z.1 2 dX9_doAtOnce_141 rfl rfl ?_
    replace hf := bd2_i hf
    obtain ⟨x56, h54, q55, hf⟩ := hf
    refine J_callV (ci := 7) (as := [.int p1, va_rf (some p2)]) (rest := []) (sy := [.int x56]) Z.1 dX9_doAtOnce_142 cw_X9_186 (pX9_doFold_ok G (dk - 1) (by omega) hE q55) rfl rfl t0 (zG Z) rfl (by decide) (zF Z (by omega)) (zO Z (by omega) (by decide)) (zM _) Z.2.1 Z.2.1 rfl rfl ?_
    replace hf := bz_i hf
    obtain ⟨z57, hf⟩ := hf
    cases hf
    exact J_zret Z.1 Z.2.2.2.2.2 (z_n z57) dX9_doAtOnce_145
  rw [if_neg c53] at hf
  have hout : x9.toInt < 1 ∨ 5 < x9.toInt := by
    have c10q := lv_neT c10 (a := 1) (by decide)
    have c14q := lv_neT c14 (a := 2) (by decide)
    have c26q := lv_neT c26 (a := 3) (by decide)
    have c48q := lv_neT c48 (a := 4) (by decide)
    have c53q := lv_neT c53 (a := 5) (by decide)
    omega
  refine J_tabOut Z.1 146 dX9_doAtOnce_11 hout (by decide) ?_
  refine J_iconst Z.1 (v := 1) (by decide) dX9_doAtOnce_146 ?_
  cases hf
  exact J_zret Z.1 Z.2.2.2.2.2 (z_n (Or.inr rfl)) dX9_doAtOnce_147
theorem dX9_doElements_0 : decode cX9_doElements 0 = .ok (.aload_n 0, 1) := by decide +kernel
theorem dX9_doElements_1 : decode cX9_doElements 1 = .ok (.getfield 34, 3) := by decide +kernel
theorem dX9_doElements_4 : decode cX9_doElements 4 = .ok (.getfield 77, 3) := by decide +kernel
theorem dX9_doElements_7 : decode cX9_doElements 7 = .ok (.ifCond .ne 5, 3) := by decide +kernel
theorem dX9_doElements_10 : decode cX9_doElements 10 = .ok (.iconst 1, 1) := by decide +kernel
theorem dX9_doElements_11 : decode cX9_doElements 11 = .ok (.ireturn, 1) := by decide +kernel
theorem dX9_doElements_12 : decode cX9_doElements 12 = .ok (.aload_n 0, 1) := by decide +kernel
theorem dX9_doElements_13 : decode cX9_doElements 13 = .ok (.aload_n 2, 1) := by decide +kernel
theorem dX9_doElements_14 : decode cX9_doElements 14 = .ok (.invokevirtual 231, 3) := by decide +kernel
theorem dX9_doElements_17 : decode cX9_doElements 17 = .ok (.ifCond .eq 11, 3) := by decide +kernel
theorem dX9_doElements_20 : decode cX9_doElements 20 = .ok (.aload_n 0, 1) := by decide +kernel
theorem dX9_doElements_21 : decode cX9_doElements 21 = .ok (.iconst 2, 1) := by decide +kernel
theorem dX9_doElements_22 : decode cX9_doElements 22 = .ok (.iload_n 1, 1) := by decide +kernel
theorem dX9_doElements_23 : decode cX9_doElements 23 = .ok (.iconst 0, 1) := by decide +kernel
theorem dX9_doElements_24 : decode cX9_doElements 24 = .ok (.invokevirtual 196, 3) := by decide +kernel
theorem dX9_doElements_27 : decode cX9_doElements 27 = .ok (.ireturn, 1) := by decide +kernel
theorem dX9_doElements_28 : decode cX9_doElements 28 = .ok (.aload_n 0, 1) := by decide +kernel
theorem dX9_doElements_29 : decode cX9_doElements 29 = .ok (.iconst 0, 1) := by decide +kernel
theorem dX9_doElements_30 : decode cX9_doElements 30 = .ok (.putfield 235, 3) := by decide +kernel
theorem dX9_doElements_33 : decode cX9_doElements 33 = .ok (.iconst 0, 1) := by decide +kernel
theorem dX9_doElements_34 : decode cX9_doElements 34 = .ok (.istore_n 3, 1) := by decide +kernel
theorem dX9_doElements_35 : decode cX9_doElements 35 = .ok (.iload_n 3, 1) := by decide +kernel
theorem dX9_doElements_36 : decode cX9_doElements 36 = .ok (.aload_n 0, 1) := by decide +kernel
theorem dX9_doElements_37 : decode cX9_doElements 37 = .ok (.getfield 34, 3) := by decide +kernel
theorem dX9_doElements_40 : decode cX9_doElements 40 = .ok (.getfield 77, 3) := by decide +kernel
theorem dX9_doElements_43 : decode cX9_doElements 43 = .ok (.if_icmp .ge 120, 3) := by decide +kernel
theorem dX9_doElements_46 : decode cX9_doElements 46 = .ok (.iconst 0, 1) := by decide +kernel
theorem dX9_doElements_47 : decode cX9_doElements 47 = .ok (.istore 4, 2) := by decide +kernel
theorem dX9_doElements_49 : decode cX9_doElements 49 = .ok (.iconst (-1), 1) := by decide +kernel
theorem dX9_doElements_50 : decode cX9_doElements 50 = .ok (.istore 5, 2) := by decide +kernel
theorem dX9_doElements_52 : decode cX9_doElements 52 = .ok (.aload_n 2, 1) := by decide +kernel
theorem dX9_doElements_53 : decode cX9_doElements 53 = .ok (.getfield 84, 3) := by decide +kernel
theorem dX9_doElements_56 : decode cX9_doElements 56 = .ok (.getfield 88, 3) := by decide +kernel
theorem dX9_doElements_59 : decode cX9_doElements 59 = .ok (.ifCond .ne 71, 3) := by decide +kernel
theorem dX9_doElements_62 : decode cX9_doElements 62 = .ok (.aload_n 2, 1) := by decide +kernel
theorem dX9_doElements_63 : decode cX9_doElements 63 = .ok (.getfield 84, 3) := by decide +kernel
theorem dX9_doElements_66 : decode cX9_doElements 66 = .ok (.bipush 8, 2) := by decide +kernel
theorem dX9_doElements_68 : decode cX9_doElements 68 = .ok (.invokevirtual 238, 3) := by decide +kernel
theorem dX9_doElements_71 : decode cX9_doElements 71 = .ok (.ifCond .eq 20, 3) := by decide +kernel
theorem dX9_doElements_74 : decode cX9_doElements 74 = .ok (.aload_n 0, 1) := by decide +kernel
theorem dX9_doElements_75 : decode cX9_doElements 75 = .ok (.aload_n 2, 1) := by decide +kernel
theorem dX9_doElements_76 : decode cX9_doElements 76 = .ok (.iload_n 3, 1) := by decide +kernel
theorem dX9_doElements_77 : decode cX9_doElements 77 = .ok (.invokevirtual 241, 3) := by decide +kernel
theorem dX9_doElements_80 : decode cX9_doElements 80 = .ok (.ifCond .ne 11, 3) := by decide +kernel
theorem dX9_doElements_83 : decode cX9_doElements 83 = .ok (.aload_n 0, 1) := by decide +kernel
theorem dX9_doElements_84 : decode cX9_doElements 84 = .ok (.iconst 3, 1) := by decide +kernel
theorem dX9_doElements_85 : decode cX9_doElements 85 = .ok (.iload_n 1, 1) := by decide +kernel
theorem dX9_doElements_86 : decode cX9_doElements 86 = .ok (.iload_n 3, 1) := by decide +kernel
theorem dX9_doElements_87 : decode cX9_doElements 87 = .ok (.invokevirtual 196, 3) := by decide +kernel
theorem dX9_doElements_90 : decode cX9_doElements 90 = .ok (.ireturn, 1) := by decide +kernel
theorem dX9_doElements_91 : decode cX9_doElements 91 = .ok (.aload_n 0, 1) := by decide +kernel
theorem dX9_doElements_92 : decode cX9_doElements 92 = .ok (.aload_n 2, 1) := by decide +kernel
theorem dX9_doElements_93 : decode cX9_doElements 93 = .ok (.iload_n 3, 1) := by decide +kernel
theorem dX9_doElements_94 : decode cX9_doElements 94 = .ok (.invokevirtual 245, 3) := by decide +kernel
theorem dX9_doElements_97 : decode cX9_doElements 97 = .ok (.istore 4, 2) := by decide +kernel
theorem dX9_doElements_99 : decode cX9_doElements 99 = .ok (.iload 4, 2) := by decide +kernel
theorem dX9_doElements_101 : decode cX9_doElements 101 = .ok (.ifCond .lt 10, 3) := by decide +kernel
theorem dX9_doElements_104 : decode cX9_doElements 104 = .ok (.iload 4, 2) := by decide +kernel
theorem dX9_doElements_106 : decode cX9_doElements 106 = .ok (.bipush 64, 2) := by decide +kernel
theorem dX9_doElements_108 : decode cX9_doElements 108 = .ok (.if_icmp .lt 11, 3) := by decide +kernel
theorem dX9_doElements_111 : decode cX9_doElements 111 = .ok (.aload_n 0, 1) := by decide +kernel
theorem dX9_doElements_112 : decode cX9_doElements 112 = .ok (.iconst 1, 1) := by decide +kernel
theorem dX9_doElements_113 : decode cX9_doElements 113 = .ok (.iload_n 1, 1) := by decide +kernel
theorem dX9_doElements_114 : decode cX9_doElements 114 = .ok (.iload_n 3, 1) := by decide +kernel
theorem dX9_doElements_115 : decode cX9_doElements 115 = .ok (.invokevirtual 196, 3) := by decide +kernel
theorem dX9_doElements_118 : decode cX9_doElements 118 = .ok (.ireturn, 1) := by decide +kernel
theorem dX9_doElements_119 : decode cX9_doElements 119 = .ok (.aload_n 0, 1) := by decide +kernel
theorem dX9_doElements_120 : decode cX9_doElements 120 = .ok (.getfield 34, 3) := by decide +kernel
theorem dX9_doElements_123 : decode cX9_doElements 123 = .ok (.iload 4, 2) := by decide +kernel
theorem dX9_doElements_125 : decode cX9_doElements 125 = .ok (.invokevirtual 249, 3) := by decide +kernel
theorem dX9_doElements_128 : decode cX9_doElements 128 = .ok (.istore 5, 2) := by decide +kernel
theorem dX9_doElements_130 : decode cX9_doElements 130 = .ok (.aload_n 0, 1) := by decide +kernel
theorem dX9_doElements_131 : decode cX9_doElements 131 = .ok (.getfield 38, 3) := by decide +kernel
theorem dX9_doElements_134 : decode cX9_doElements 134 = .ok (.iload_n 1, 1) := by decide +kernel
theorem dX9_doElements_135 : decode cX9_doElements 135 = .ok (.aload_n 2, 1) := by decide +kernel
theorem dX9_doElements_136 : decode cX9_doElements 136 = .ok (.iload_n 3, 1) := by decide +kernel
theorem dX9_doElements_137 : decode cX9_doElements 137 = .ok (.iload 5, 2) := by decide +kernel
theorem dX9_doElements_139 : decode cX9_doElements 139 = .ok (.aload_n 0, 1) := by decide +kernel
theorem dX9_doElements_140 : decode cX9_doElements 140 = .ok (.getfield 34, 3) := by decide +kernel
theorem dX9_doElements_143 : decode cX9_doElements 143 = .ok (.getfield 252, 3) := by decide +kernel
theorem dX9_doElements_146 : decode cX9_doElements 146 = .ok (.invokevirtual 255, 3) := by decide +kernel
theorem dX9_doElements_149 : decode cX9_doElements 149 = .ok (.aload_n 0, 1) := by decide +kernel
theorem dX9_doElements_150 : decode cX9_doElements 150 = .ok (.aload_n 2, 1) := by decide +kernel
theorem dX9_doElements_151 : decode cX9_doElements 151 = .ok (.iload_n 3, 1) := by decide +kernel
theorem dX9_doElements_152 : decode cX9_doElements 152 = .ok (.iload 4, 2) := by decide +kernel
theorem dX9_doElements_154 : decode cX9_doElements 154 = .ok (.invokevirtual 259, 3) := by decide +kernel
theorem dX9_doElements_157 : decode cX9_doElements 157 = .ok (.iinc 3 1, 3) := by decide +kernel
theorem dX9_doElements_160 : decode cX9_doElements 160 = .ok (.goto (-125), 3) := by decide +kernel
theorem dX9_doElements_163 : decode cX9_doElements 163 = .ok (.aload_n 0, 1) := by decide +kernel
theorem dX9_doElements_164 : decode cX9_doElements 164 = .ok (.getfield 38, 3) := by decide +kernel
theorem dX9_doElements_167 : decode cX9_doElements 167 = .ok (.aload_n 2, 1) := by decide +kernel
theorem dX9_doElements_168 : decode cX9_doElements 168 = .ok (.aload_n 0, 1) := by decide +kernel
theorem dX9_doElements_169 : decode cX9_doElements 169 = .ok (.getfield 235, 3) := by decide +kernel
theorem dX9_doElements_172 : decode cX9_doElements 172 = .ok (.invokevirtual 263, 3) := by decide +kernel
theorem dX9_doElements_175 : decode cX9_doElements 175 = .ok (.iconst 1, 1) := by decide +kernel
theorem dX9_doElements_176 : decode cX9_doElements 176 = .ok (.ireturn, 1) := by decide +kernel
def pX9_doElements_b111 (E : EC) (g : MT) (this : Nat) (p1 : Int32) (p2 : Nat) (l3 : Int32) (h : CT) : Option ((Int32) × CT) := bd2 (pX9_trap g h this 1 p1 l3) fun x3 h1 => (bz x3 (some (x3, h1)))
set_option maxRecDepth 10000 in
set_option maxHeartbeats 4000000 in
theorem pX9_doElements_b111_ok {X : Cx} {G : Gx} {dk : Nat} {g : MT} {r0 : Int32} {h0 : CT} {this : Nat} {p1 : Int32} {p2 : Nat} (Z : Zx X G cX9_doElements RX9 6 dk (some .boolean) (some (.int r0)) g h0) (hK : 4 ≤ dk) {E : EC} (hE : G.2.2.2 = E) (t0 : gT g this = 8) (l3 : Int32) (h : CT) (hf : pX9_doElements_b111 E g this p1 p2 l3 h = some (r0, h0)) : J X g h 111 [(0, va_rf (some this)), (1, .int p1), (3, .int l3)] [] := by
  unfold pX9_doElements_b111 at hf
  refine J_aload_n Z.1 0 dX9_doElements_111 rfl rfl ?_
  refine J_iconst Z.1 (v := 1) (by decide) dX9_doElements_112 ?_
  refine J_iload_n Z.1 1 dX9_doElements_113 rfl rfl ?_
  refine J_iload_n Z.1 2 dX9_doElements_114 rfl rfl ?_
  replace hf := bd2_i hf
  obtain ⟨x3, h1, q2, hf⟩ := hf
  refine J_callV (ci := 7) (as := [.int 1, .int p1, .int l3]) (rest := []) (sy := [.int x3]) Z.1 dX9_doElements_115 cw_X9_196 (pX9_trap_ok G (dk - 1) (by omega) q2) rfl rfl t0 (zG Z) rfl (by decide) (zF Z (by omega)) (zO Z (by omega) (by decide)) (zM _) Z.2.1 Z.2.1 rfl rfl ?_
  replace hf := bz_i hf
  obtain ⟨z4, hf⟩ := hf
  cases hf
  exact J_zret Z.1 Z.2.2.2.2.2 (z_n z4) dX9_doElements_118
def pX9_doElements_b130 (E : EC) (g : MT) (this : Nat) (p1 : Int32) (p2 : Nat) (k35 : Int32 → CT → Option ((Int32) × CT)) (l3 : Int32) (l4 : Int32) (l5 : Int32) (h : CT) : Option ((Int32) × CT) := lt (hR h this 5) fun r1 => (lt (hR h this 4) fun r2 => (nn r2 fun a2 => (tg g a2 3 (nn r1 fun a1 => (tg g a1 9 (bd (pX10_take E g h a1 p1 p2 l3 l5 (hI h a2 7)) fun h5 => (bd (pX9_doElement E g h5 this p2 l3 l4) fun h7 => (lt (l3 + 1) fun x9 => (k35 x9 h7)))))))))
set_option maxRecDepth 10000 in
set_option maxHeartbeats 4000000 in
theorem pX9_doElements_b130_ok {X : Cx} {G : Gx} {dk : Nat} {g : MT} {r0 : Int32} {h0 : CT} {this : Nat} {p1 : Int32} {p2 : Nat} {k35 : Int32 → CT → Option ((Int32) × CT)} (Z : Zx X G cX9_doElements RX9 6 dk (some .boolean) (some (.int r0)) g h0) (hK : 4 ≤ dk) {E : EC} (hE : G.2.2.2 = E) (t0 : gT g this = 8) (hk35 : ∀ (l3 : Int32) (h : CT), k35 l3 h = some (r0, h0) → J X g h 35 [(0, va_rf (some this)), (1, .int p1), (2, va_rf (some p2)), (3, .int l3)] []) (l3 : Int32) (l4 : Int32) (l5 : Int32) (h : CT) (hf : pX9_doElements_b130 E g this p1 p2 k35 l3 l4 l5 h = some (r0, h0)) : J X g h 130 [(0, va_rf (some this)), (1, .int p1), (2, va_rf (some p2)), (3, .int l3), (4, .int l4), (5, .int l5)] [] := by
  unfold pX9_doElements_b130 at hf
  refine J_aload_n Z.1 0 dX9_doElements_130 rfl rfl ?_
  refine J_get (v := va_rf (hR h this 5)) Z.1 dX9_doElements_131 fl_X9_38 t0 rfl ?_
  refine J_tr (fun r1 er1 => ?_)
  replace hf := lt_i hf r1 er1
  refine J_iload_n Z.1 1 dX9_doElements_134 rfl rfl ?_
  refine J_aload_n Z.1 2 dX9_doElements_135 rfl rfl ?_
  refine J_iload_n Z.1 3 dX9_doElements_136 rfl rfl ?_
  refine J_iload Z.1 5 dX9_doElements_137 rfl ?_
  refine J_aload_n Z.1 0 dX9_doElements_139 rfl rfl ?_
  refine J_get (v := va_rf (hR h this 4)) Z.1 dX9_doElements_140 fl_X9_34 t0 rfl ?_
  refine J_tr (fun r2 er2 => ?_)
  replace hf := lt_i hf r2 er2
  replace hf := nn_i hf
  obtain ⟨a2, rfl, hf⟩ := hf
  replace hf := tg_i hf
  obtain ⟨t3, hf⟩ := hf
  refine J_get (v := .int (hI h a2 7)) Z.1 dX9_doElements_143 fl_X9_252 t3 rfl ?_
  replace hf := nn_i hf
  obtain ⟨a1, rfl, hf⟩ := hf
  replace hf := tg_i hf
  obtain ⟨t4, hf⟩ := hf
  replace hf := bd_i hf
  obtain ⟨h5, q6, hf⟩ := hf
  refine J_callV (ci := 8) (as := [.int p1, va_rf (some p2), .int l3, .int l5, .int (hI h a2 7)]) (rest := []) (sy := []) Z.1 dX9_doElements_146 cw_X9_255 (pX10_take_ok G (dk - 1) (by omega) hE q6) rfl rfl t4 (zG Z) rfl (by decide) (zF Z (by omega)) (zO Z (by omega) (by decide)) (zM _) Z.2.1 Z.2.1 rfl rfl ?_
  refine J_aload_n Z.1 0 dX9_doElements_149 rfl rfl ?_
  refine J_aload_n Z.1 2 dX9_doElements_150 rfl rfl ?_
  refine J_iload_n Z.1 3 dX9_doElements_151 rfl rfl ?_
  refine J_iload Z.1 4 dX9_doElements_152 rfl ?_
  replace hf := bd_i hf
  obtain ⟨h7, q8, hf⟩ := hf
  refine J_callV (ci := 7) (as := [va_rf (some p2), .int l3, .int l4]) (rest := []) (sy := []) Z.1 dX9_doElements_154 cw_X9_259 (pX9_doElement_ok G (dk - 1) (by omega) hE q8) rfl rfl t0 (zG Z) rfl (by decide) (zF Z (by omega)) (zO Z (by omega) (by decide)) (zM _) Z.2.1 Z.2.1 rfl rfl ?_
  refine J_iinc Z.1 (v := 1) (lv2 := [(3, .int (l3 + 1)), (0, va_rf (some this)), (1, .int p1), (2, va_rf (some p2)), (4, .int l4), (5, .int l5)]) 3 dX9_doElements_157 rfl (by decide) (zL Z (by decide)) rfl ?_
  obtain ⟨x9, ex9⟩ : ∃ z, z = (l3 + 1) := ⟨_, rfl⟩
  replace hf := lt_i hf x9 ex9
  rw [← ex9]
  refine J_goto Z.1 35 dX9_doElements_160 (by decide) ?_
  refine J_lv [1, 2, 3, 0] rfl ?_
  exact hk35 _ _ hf
def pX9_doElements_b91 (E : EC) (g : MT) (this : Nat) (p1 : Int32) (p2 : Nat) (k35 : Int32 → CT → Option ((Int32) × CT)) (l3 : Int32) (h : CT) : Option ((Int32) × CT) := bd2 (pX9_placeOf E g h this p2 l3) fun x3 h1 => (if x3 < 0 then pX9_doElements_b111 E g this p1 p2  l3 h1 else if x3 < 64 then lt (hR h1 this 4) fun r6 => (nn r6 fun a6 => (tg g a6 3 (bd (pX3_bankOf g h1 a6 x3) fun x8 => (pX9_doElements_b130 E g this p1 p2 k35 l3 x3 x8 h1)))) else pX9_doElements_b111 E g this p1 p2  l3 h1)
set_option maxRecDepth 10000 in
set_option maxHeartbeats 4000000 in
theorem pX9_doElements_b91_ok {X : Cx} {G : Gx} {dk : Nat} {g : MT} {r0 : Int32} {h0 : CT} {this : Nat} {p1 : Int32} {p2 : Nat} {k35 : Int32 → CT → Option ((Int32) × CT)} (Z : Zx X G cX9_doElements RX9 6 dk (some .boolean) (some (.int r0)) g h0) (hK : 4 ≤ dk) {E : EC} (hE : G.2.2.2 = E) (t0 : gT g this = 8) (hk35 : ∀ (l3 : Int32) (h : CT), k35 l3 h = some (r0, h0) → J X g h 35 [(0, va_rf (some this)), (1, .int p1), (2, va_rf (some p2)), (3, .int l3)] []) (l3 : Int32) (h : CT) (hf : pX9_doElements_b91 E g this p1 p2 k35 l3 h = some (r0, h0)) : J X g h 91 [(0, va_rf (some this)), (1, .int p1), (2, va_rf (some p2)), (3, .int l3)] [] := by
  unfold pX9_doElements_b91 at hf
  refine J_aload_n Z.1 0 dX9_doElements_91 rfl rfl ?_
  refine J_aload_n Z.1 2 dX9_doElements_92 rfl rfl ?_
  refine J_iload_n Z.1 3 dX9_doElements_93 rfl rfl ?_
  replace hf := bd2_i hf
  obtain ⟨x3, h1, q2, hf⟩ := hf
  refine J_callV (ci := 7) (as := [va_rf (some p2), .int l3]) (rest := []) (sy := [.int x3]) Z.1 dX9_doElements_94 cw_X9_245 (pX9_placeOf_ok G (dk - 1) (by omega) hE q2) rfl rfl t0 (zG Z) rfl (by decide) (zF Z (by omega)) (zO Z (by omega) (by decide)) (zM _) Z.2.1 Z.2.1 rfl rfl ?_
  refine J_istore Z.1 (lv2 := [(4, .int x3), (0, va_rf (some this)), (1, .int p1), (2, va_rf (some p2)), (3, .int l3)]) dX9_doElements_97 (zL Z (by decide)) rfl ?_
  refine J_iload Z.1 0 dX9_doElements_99 rfl ?_
  refine J_if_lt Z.1 111 dX9_doElements_101 (by decide) (fun c4 => ?_) (fun c4 => ?_)
  · rw [if_pos c4] at hf
    refine J_lv [1, 2, 4] rfl ?_
    exact pX9_doElements_b111_ok Z hK hE t0  _ _ hf
  · rw [if_neg c4] at hf
    refine J_iload Z.1 0 dX9_doElements_104 rfl ?_
    refine J_bipush Z.1 (v := 64) (by decide) dX9_doElements_106 ?_
    refine J_icmp_lt Z.1 119 dX9_doElements_108 (by decide) (fun c5 => ?_) (fun c5 => ?_)
    · rw [if_pos c5] at hf
      refine J_aload_n Z.1 1 dX9_doElements_119 rfl rfl ?_
      refine J_get (v := va_rf (hR h1 this 4)) Z.1 dX9_doElements_120 fl_X9_34 t0 rfl ?_
      refine J_tr (fun r6 er6 => ?_)
      replace hf := lt_i hf r6 er6
      refine J_iload Z.1 0 dX9_doElements_123 rfl ?_
      replace hf := nn_i hf
      obtain ⟨a6, rfl, hf⟩ := hf
      replace hf := tg_i hf
      obtain ⟨t7, hf⟩ := hf
      replace hf := bd_i hf
      obtain ⟨x8, q9, hf⟩ := hf
      refine J_callV (ci := 2) (as := [.int x3]) (rest := []) (sy := [.int x8]) Z.1 dX9_doElements_125 cw_X9_249 (pX3_bankOf_ok G (dk - 1) (by omega) q9) rfl rfl t7 (zG Z) rfl (by decide) (zF Z (by omega)) (zO Z (by omega) (by decide)) (zM _) Z.2.1 Z.2.1 rfl rfl ?_
      refine J_istore Z.1 (lv2 := [(5, .int x8), (4, .int x3), (0, va_rf (some this)), (1, .int p1), (2, va_rf (some p2)), (3, .int l3)]) dX9_doElements_128 (zL Z (by decide)) rfl ?_
      refine J_lv [2, 3, 4, 5, 1, 0] rfl ?_
      exact pX9_doElements_b130_ok Z hK hE t0 hk35 _ _ _ _ hf
    · rw [if_neg c5] at hf
      refine J_lv [1, 2, 4] rfl ?_
      exact pX9_doElements_b111_ok Z hK hE t0  _ _ hf
def pX9_doElements_b35 (E : EC) (g : MT) (this : Nat) (p1 : Int32) (p2 : Nat) (k35 : Int32 → CT → Option ((Int32) × CT)) (l3 : Int32) (h : CT) : Option ((Int32) × CT) := lt (hR h this 4) fun r1 => (nn r1 fun a1 => (tg g a1 3 (if (hI h a1 5) ≤ l3 then lt (hR h this 5) fun r4 => (nn r4 fun a4 => (tg g a4 9 (bd (pX10_finish E g h a4 p2 (hI h this 10)) fun h6 => (some (1, h6))))) else tg g p2 2 (lt (hR h p2 0) fun r9 => (nn r9 fun a9 => (tg E.2.2 a9 60 (if (hI E.2.1 a9 2) = 0 then lt (hR h p2 0) fun r12 => (nn r12 fun a12 => (tg E.2.2 a12 60 (bd (pX5_does E g h a12 8) fun x14 => (if x14 = 0 then pX9_doElements_b91 E g this p1 p2 k35 l3 h else bd2 (pX9_offsetFits g h this p2 l3) fun x19 h17 => (if x19 = 0 then bd2 (pX9_trap g h17 this 3 p1 l3) fun x23 h21 => (bz x23 (some (x23, h21))) else pX9_doElements_b91 E g this p1 p2 k35 l3 h17))))) else pX9_doElements_b130 E g this p1 p2 k35 l3 0 (-1) h)))))))
set_option maxRecDepth 10000 in
set_option maxHeartbeats 4000000 in
theorem pX9_doElements_b35_ok {X : Cx} {G : Gx} {dk : Nat} {g : MT} {r0 : Int32} {h0 : CT} {this : Nat} {p1 : Int32} {p2 : Nat} {k35 : Int32 → CT → Option ((Int32) × CT)} (Z : Zx X G cX9_doElements RX9 6 dk (some .boolean) (some (.int r0)) g h0) (hK : 4 ≤ dk) {E : EC} (hE : G.2.2.2 = E) (t0 : gT g this = 8) (hk35 : ∀ (l3 : Int32) (h : CT), k35 l3 h = some (r0, h0) → J X g h 35 [(0, va_rf (some this)), (1, .int p1), (2, va_rf (some p2)), (3, .int l3)] []) (l3 : Int32) (h : CT) (hf : pX9_doElements_b35 E g this p1 p2 k35 l3 h = some (r0, h0)) : J X g h 35 [(0, va_rf (some this)), (1, .int p1), (2, va_rf (some p2)), (3, .int l3)] [] := by
  unfold pX9_doElements_b35 at hf
  refine J_iload_n Z.1 3 dX9_doElements_35 rfl rfl ?_
  refine J_aload_n Z.1 0 dX9_doElements_36 rfl rfl ?_
  refine J_get (v := va_rf (hR h this 4)) Z.1 dX9_doElements_37 fl_X9_34 t0 rfl ?_
  refine J_tr (fun r1 er1 => ?_)
  replace hf := lt_i hf r1 er1
  replace hf := nn_i hf
  obtain ⟨a1, rfl, hf⟩ := hf
  replace hf := tg_i hf
  obtain ⟨t2, hf⟩ := hf
  refine J_get (v := .int (hI h a1 5)) Z.1 dX9_doElements_40 fl_X9_77 t2 rfl ?_
  refine J_icmp_ge Z.1 163 dX9_doElements_43 (by decide) (fun c3 => ?_) (fun c3 => ?_)
  · rw [if_pos c3] at hf
    refine J_aload_n Z.1 0 dX9_doElements_163 rfl rfl ?_
    refine J_get (v := va_rf (hR h this 5)) Z.1 dX9_doElements_164 fl_X9_38 t0 rfl ?_
    refine J_tr (fun r4 er4 => ?_)
    replace hf := lt_i hf r4 er4
    refine J_aload_n Z.1 2 dX9_doElements_167 rfl rfl ?_
    refine J_aload_n Z.1 0 dX9_doElements_168 rfl rfl ?_
    refine J_get (v := .int (hI h this 10)) Z.1 dX9_doElements_169 fl_X9_235 t0 rfl ?_
    replace hf := nn_i hf
    obtain ⟨a4, rfl, hf⟩ := hf
    replace hf := tg_i hf
    obtain ⟨t5, hf⟩ := hf
    replace hf := bd_i hf
    obtain ⟨h6, q7, hf⟩ := hf
    refine J_callV (ci := 8) (as := [va_rf (some p2), .int (hI h this 10)]) (rest := []) (sy := []) Z.1 dX9_doElements_172 cw_X9_263 (pX10_finish_ok G (dk - 1) (by omega) hE q7) rfl rfl t5 (zG Z) rfl (by decide) (zF Z (by omega)) (zO Z (by omega) (by decide)) (zM _) Z.2.1 Z.2.1 rfl rfl ?_
    refine J_iconst Z.1 (v := 1) (by decide) dX9_doElements_175 ?_
    cases hf
    exact J_zret Z.1 Z.2.2.2.2.2 (z_n (Or.inr rfl)) dX9_doElements_176
  · rw [if_neg c3] at hf
    refine J_iconst Z.1 (v := 0) (by decide) dX9_doElements_46 ?_
    refine J_istore Z.1 (lv2 := [(4, .int 0), (0, va_rf (some this)), (1, .int p1), (2, va_rf (some p2)), (3, .int l3)]) dX9_doElements_47 (zL Z (by decide)) rfl ?_
    refine J_iconst Z.1 (v := (-1)) (by decide) dX9_doElements_49 ?_
    refine J_istore Z.1 (lv2 := [(5, .int (-1)), (4, .int 0), (0, va_rf (some this)), (1, .int p1), (2, va_rf (some p2)), (3, .int l3)]) dX9_doElements_50 (zL Z (by decide)) rfl ?_
    refine J_aload_n Z.1 4 dX9_doElements_52 rfl rfl ?_
    replace hf := tg_i hf
    obtain ⟨t8, hf⟩ := hf
    refine J_get (v := va_rf (hR h p2 0)) Z.1 dX9_doElements_53 fl_X9_84 t8 rfl ?_
    refine J_tr (fun r9 er9 => ?_)
    replace hf := lt_i hf r9 er9
    replace hf := nn_i hf
    obtain ⟨a9, rfl, hf⟩ := hf
    replace hf := tg_i hf
    obtain ⟨t10, hf⟩ := hf
    rw [← zE Z hE] at t10
    refine J_getO (k := 2) (v := .int (hI E.2.1 a9 2)) Z.1 dX9_doElements_56 rfl t10 q_2182 (by rw [zE Z hE]; rfl) rfl ?_
    refine J_if_ne Z.1 130 dX9_doElements_59 (by decide) (fun c11 => ?_) (fun c11 => ?_)
    · rw [if_neg c11] at hf
      refine J_lv [2, 3, 4, 5, 1, 0] rfl ?_
      exact pX9_doElements_b130_ok Z hK hE t0 hk35 _ _ _ _ hf
    · rw [if_pos c11] at hf
      refine J_aload_n Z.1 4 dX9_doElements_62 rfl rfl ?_
      refine J_get (v := va_rf (hR h p2 0)) Z.1 dX9_doElements_63 fl_X9_84 t8 rfl ?_
      refine J_tr (fun r12 er12 => ?_)
      replace hf := lt_i hf r12 er12
      refine J_bipush Z.1 (v := 8) (by decide) dX9_doElements_66 ?_
      replace hf := nn_i hf
      obtain ⟨a12, rfl, hf⟩ := hf
      replace hf := tg_i hf
      obtain ⟨t13, hf⟩ := hf
      rw [← zE Z hE] at t13
      replace hf := bd_i hf
      obtain ⟨x14, q15, hf⟩ := hf
      refine J_callK (as := [.int 8]) (rest := []) (sy := [.int x14]) Z.1 dX9_doElements_68 cw_X9_238 (pX5_does_ok G (dk - 1) (by omega) hE q15) (kO Z.1 t13) (zG Z) rfl (by decide) (zF Z (by omega)) (zO Z (by omega) (by decide)) (zM _) Z.2.1 Z.2.1 rfl rfl ?_
      refine J_if_eq Z.1 91 dX9_doElements_71 (by decide) (fun c16 => ?_) (fun c16 => ?_)
      · rw [if_pos c16] at hf
        refine J_lv [2, 3, 4, 5] rfl ?_
        exact pX9_doElements_b91_ok Z hK hE t0 hk35 _ _ hf
      · rw [if_neg c16] at hf
        refine J_aload_n Z.1 2 dX9_doElements_74 rfl rfl ?_
        refine J_aload_n Z.1 4 dX9_doElements_75 rfl rfl ?_
        refine J_iload_n Z.1 5 dX9_doElements_76 rfl rfl ?_
        replace hf := bd2_i hf
        obtain ⟨x19, h17, q18, hf⟩ := hf
        refine J_callV (ci := 7) (as := [va_rf (some p2), .int l3]) (rest := []) (sy := [.int x19]) Z.1 dX9_doElements_77 cw_X9_241 (pX9_offsetFits_ok G (dk - 1) (by omega) q18) rfl rfl t0 (zG Z) rfl (by decide) (zF Z (by omega)) (zO Z (by omega) (by decide)) (zM _) Z.2.1 Z.2.1 rfl rfl ?_
        refine J_if_ne Z.1 91 dX9_doElements_80 (by decide) (fun c20 => ?_) (fun c20 => ?_)
        · rw [if_neg c20] at hf
          refine J_lv [2, 3, 4, 5] rfl ?_
          exact pX9_doElements_b91_ok Z hK hE t0 hk35 _ _ hf
        · rw [if_pos c20] at hf
          refine J_aload_n Z.1 2 dX9_doElements_83 rfl rfl ?_
          refine J_iconst Z.1 (v := 3) (by decide) dX9_doElements_84 ?_
          refine J_iload_n Z.1 3 dX9_doElements_85 rfl rfl ?_
          refine J_iload_n Z.1 5 dX9_doElements_86 rfl rfl ?_
          replace hf := bd2_i hf
          obtain ⟨x23, h21, q22, hf⟩ := hf
          refine J_callV (ci := 7) (as := [.int 3, .int p1, .int l3]) (rest := []) (sy := [.int x23]) Z.1 dX9_doElements_87 cw_X9_196 (pX9_trap_ok G (dk - 1) (by omega) q22) rfl rfl t0 (zG Z) rfl (by decide) (zF Z (by omega)) (zO Z (by omega) (by decide)) (zM _) Z.2.1 Z.2.1 rfl rfl ?_
          replace hf := bz_i hf
          obtain ⟨z24, hf⟩ := hf
          cases hf
          exact J_zret Z.1 Z.2.2.2.2.2 (z_n z24) dX9_doElements_90
def pX9_doElements_l35 (E : EC) (g : MT) (this : Nat) (p1 : Int32) (p2 : Nat) : Nat → Int32 → CT → Option ((Int32) × CT)
  | 0, _, _ => none
  | n + 1, l3, h => pX9_doElements_b35 E g this p1 p2 (pX9_doElements_l35 E g this p1 p2 n) l3 h
theorem pX9_doElements_l35_ok {X : Cx} {G : Gx} {dk : Nat} {g : MT} {r0 : Int32} {h0 : CT} {this : Nat} {p1 : Int32} {p2 : Nat} (Z : Zx X G cX9_doElements RX9 6 dk (some .boolean) (some (.int r0)) g h0) (hK : 4 ≤ dk) {E : EC} (hE : G.2.2.2 = E) (t0 : gT g this = 8) : ∀ (n : Nat) (l3 : Int32) (h : CT), pX9_doElements_l35 E g this p1 p2 n l3 h = some (r0, h0) → J X g h 35 [(0, va_rf (some this)), (1, .int p1), (2, va_rf (some p2)), (3, .int l3)] [] := by
  intro n
  induction n with
  | zero => intro l3 h hf; cases hf
  | succ n ih => intro l3 h hf; exact pX9_doElements_b35_ok Z hK hE t0 ih l3 h hf
def pX9_doElements (E : EC) (g : MT) (h : CT) (this : Nat) (p1 : Int32) (p2 : Nat) : Option ((Int32) × CT) := tg g this 8 (lt (hR h this 4) fun r1 => (nn r1 fun a1 => (tg g a1 3 (if (hI h a1 5) = 0 then some (1, h) else bd (pX9_lacksRow E g h this p2) fun x4 => (if x4 = 0 then lt (sI h this 10 0) fun h7 => (pX9_doElements_l35 E g this p1 p2  FUEL 0 h7) else bd2 (pX9_trap g h this 2 p1 0) fun x10 h8 => (bz x10 (some (x10, h8))))))))
set_option maxRecDepth 10000 in
set_option maxHeartbeats 4000000 in
theorem pX9_doElements_ok (G : Gx) (dk : Nat) (hK : 4 ≤ dk) {g : MT} {E : EC} (hE : G.2.2.2 = E) {h h0 : CT} {this : Nat} {p1 : Int32} {p2 : Nat} {r0 : Int32} (hf : pX9_doElements E g h this p1 p2 = some (r0, h0)) : Ctr G dk yX9_doElements cX9_doElements 6 (some .boolean) [va_rf (some this), .int p1, va_rf (some p2)] g h (some (.int r0)) g h0 := by
  refine Ctr.ofZ (lv := [(0, va_rf (some this)), (1, .int p1), (2, va_rf (some p2))]) (by decide +kernel) (by simp [cat_i, cat_l, cat_d, cat_rf]) rfl fun X Z => ?_
  unfold pX9_doElements at hf
  replace hf := tg_i hf
  obtain ⟨t0, hf⟩ := hf
  refine J_aload_n Z.1 0 dX9_doElements_0 rfl rfl ?_
  refine J_get (v := va_rf (hR h this 4)) Z.1 dX9_doElements_1 fl_X9_34 t0 rfl ?_
  refine J_tr (fun r1 er1 => ?_)
  replace hf := lt_i hf r1 er1
  replace hf := nn_i hf
  obtain ⟨a1, rfl, hf⟩ := hf
  replace hf := tg_i hf
  obtain ⟨t2, hf⟩ := hf
  refine J_get (v := .int (hI h a1 5)) Z.1 dX9_doElements_4 fl_X9_77 t2 rfl ?_
  refine J_if_ne Z.1 12 dX9_doElements_7 (by decide) (fun c3 => ?_) (fun c3 => ?_)
  · rw [if_neg c3] at hf
    refine J_aload_n Z.1 0 dX9_doElements_12 rfl rfl ?_
    refine J_aload_n Z.1 2 dX9_doElements_13 rfl rfl ?_
    replace hf := bd_i hf
    obtain ⟨x4, q5, hf⟩ := hf
    refine J_callV (ci := 7) (as := [va_rf (some p2)]) (rest := []) (sy := [.int x4]) Z.1 dX9_doElements_14 cw_X9_231 (pX9_lacksRow_ok G (dk - 1) (by omega) hE q5) rfl rfl t0 (zG Z) rfl (by decide) (zF Z (by omega)) (zO Z (by omega) (by decide)) (zM _) Z.2.1 Z.2.1 rfl rfl ?_
    refine J_if_eq Z.1 28 dX9_doElements_17 (by decide) (fun c6 => ?_) (fun c6 => ?_)
    · rw [if_pos c6] at hf
      refine J_aload_n Z.1 0 dX9_doElements_28 rfl rfl ?_
      refine J_iconst Z.1 (v := 0) (by decide) dX9_doElements_29 ?_
      refine J_putI Z.1 dX9_doElements_30 fl_X9_235 (fun q => by cases q) t0 rfl rfl (congrArg Value.int (hI_s _ _ _ _)) ?_
      refine J_th (fun h7 eh7 => ?_)
      replace hf := lt_i hf h7 eh7
      refine J_iconst Z.1 (v := 0) (by decide) dX9_doElements_33 ?_
      refine J_istore_n Z.1 (lv2 := [(3, .int 0), (0, va_rf (some this)), (1, .int p1), (2, va_rf (some p2))]) dX9_doElements_34 rfl (zL Z (by decide)) rfl ?_
      refine J_lv [1, 2, 3, 0] rfl ?_
      exact pX9_doElements_l35_ok Z hK hE t0  FUEL _ _ hf
    · rw [if_neg c6] at hf
      refine J_aload_n Z.1 0 dX9_doElements_20 rfl rfl ?_
      refine J_iconst Z.1 (v := 2) (by decide) dX9_doElements_21 ?_
      refine J_iload_n Z.1 1 dX9_doElements_22 rfl rfl ?_
      refine J_iconst Z.1 (v := 0) (by decide) dX9_doElements_23 ?_
      replace hf := bd2_i hf
      obtain ⟨x10, h8, q9, hf⟩ := hf
      refine J_callV (ci := 7) (as := [.int 2, .int p1, .int 0]) (rest := []) (sy := [.int x10]) Z.1 dX9_doElements_24 cw_X9_196 (pX9_trap_ok G (dk - 1) (by omega) q9) rfl rfl t0 (zG Z) rfl (by decide) (zF Z (by omega)) (zO Z (by omega) (by decide)) (zM _) Z.2.1 Z.2.1 rfl rfl ?_
      replace hf := bz_i hf
      obtain ⟨z11, hf⟩ := hf
      cases hf
      exact J_zret Z.1 Z.2.2.2.2.2 (z_n z11) dX9_doElements_27
  · rw [if_pos c3] at hf
    refine J_iconst Z.1 (v := 1) (by decide) dX9_doElements_10 ?_
    cases hf
    exact J_zret Z.1 Z.2.2.2.2.2 (z_n (Or.inr rfl)) dX9_doElements_11
theorem dX12_give_0 : decode cX12_give 0 = .ok (.iload_n 1, 1) := by decide +kernel
theorem dX12_give_1 : decode cX12_give 1 = .ok (.iconst 0, 1) := by decide +kernel
theorem dX12_give_2 : decode cX12_give 2 = .ok (.iconst 3, 1) := by decide +kernel
theorem dX12_give_3 : decode cX12_give 3 = .ok (.invokestatic 109, 3) := by decide +kernel
theorem dX12_give_6 : decode cX12_give 6 = .ok (.ifCond .ne 9, 3) := by decide +kernel
theorem dX12_give_9 : decode cX12_give 9 = .ok (.aload_n 0, 1) := by decide +kernel
theorem dX12_give_10 : decode cX12_give 10 = .ok (.iconst 2, 1) := by decide +kernel
theorem dX12_give_11 : decode cX12_give 11 = .ok (.invokevirtual 143, 3) := by decide +kernel
theorem dX12_give_14 : decode cX12_give 14 = .ok (.ireturn, 1) := by decide +kernel
theorem dX12_give_15 : decode cX12_give 15 = .ok (.aload_n 0, 1) := by decide +kernel
theorem dX12_give_16 : decode cX12_give 16 = .ok (.aload_n 0, 1) := by decide +kernel
theorem dX12_give_17 : decode cX12_give 17 = .ok (.getfield 30, 3) := by decide +kernel
theorem dX12_give_20 : decode cX12_give 20 = .ok (.getfield 231, 3) := by decide +kernel
theorem dX12_give_23 : decode cX12_give 23 = .ok (.iload_n 1, 1) := by decide +kernel
theorem dX12_give_24 : decode cX12_give 24 = .ok (.lload_n 2, 1) := by decide +kernel
theorem dX12_give_25 : decode cX12_give 25 = .ok (.iload 4, 2) := by decide +kernel
theorem dX12_give_27 : decode cX12_give 27 = .ok (.invokevirtual 257, 3) := by decide +kernel
theorem dX12_give_30 : decode cX12_give 30 = .ok (.ireturn, 1) := by decide +kernel
def pX12_give (g : MT) (h : CT) (this : Nat) (p1 : Int32) (p2 : Int64) (p4 : Int32) : Option ((Int32) × CT) := tg g this 11 (if (pX12_within p1 0 3) = 0 then bd2 (pX12_refuse g h this 2) fun x10 h8 => (some (x10, h8)) else lt (hR h this 4) fun r2 => (nn r2 fun a2 => (tg g a2 3 (lt (hR h a2 2) fun r4 => (nn r4 fun a4 => (bd2 (pX12_placeNumber g h this a4 p1 p2 p4) fun x7 h5 => (some (x7, h5))))))))
set_option maxRecDepth 10000 in
set_option maxHeartbeats 4000000 in
theorem pX12_give_ok (G : Gx) (dk : Nat) (hK : 5 ≤ dk) {g : MT} {h h0 : CT} {this : Nat} {p1 : Int32} {p2 : Int64} {p4 : Int32} {r0 : Int32} (hf : pX12_give g h this p1 p2 p4 = some (r0, h0)) : Ctr G dk yX12_give cX12_give 5 (some .int) [va_rf (some this), .int p1, .long p2, .int p4] g h (some (.int r0)) g h0 := by
  refine Ctr.ofZ (lv := [(0, va_rf (some this)), (1, .int p1), (2, .long p2), (4, .int p4)]) (by decide +kernel) (by simp [cat_i, cat_l, cat_d, cat_rf]) rfl fun X Z => ?_
  unfold pX12_give at hf
  replace hf := tg_i hf
  obtain ⟨t0, hf⟩ := hf
  refine J_iload_n Z.1 1 dX12_give_0 rfl rfl ?_
  refine J_iconst Z.1 (v := 0) (by decide) dX12_give_1 ?_
  refine J_iconst Z.1 (v := 3) (by decide) dX12_give_2 ?_
  refine J_callS (as := [.int p1, .int 0, .int 3]) (rest := []) (sy := [.int (pX12_within p1 0 3)]) Z.1 dX12_give_3 cw_X12_109 (pX12_within_ok G (dk - 1) (by omega) g h p1 0 3) (zG Z) rfl (by decide) (zF Z (by omega)) (zO Z (by omega) (by decide)) (zM _) Z.2.1 Z.2.1 rfl rfl ?_
  refine J_if_ne Z.1 15 dX12_give_6 (by decide) (fun c1 => ?_) (fun c1 => ?_)
  · rw [if_neg c1] at hf
    refine J_aload_n Z.1 0 dX12_give_15 rfl rfl ?_
    refine J_aload_n Z.1 0 dX12_give_16 rfl rfl ?_
    refine J_get (v := va_rf (hR h this 4)) Z.1 dX12_give_17 fl_X12_30 t0 rfl ?_
    refine J_tr (fun r2 er2 => ?_)
    replace hf := lt_i hf r2 er2
    replace hf := nn_i hf
    obtain ⟨a2, rfl, hf⟩ := hf
    replace hf := tg_i hf
    obtain ⟨t3, hf⟩ := hf
    refine J_get (v := va_rf (hR h a2 2)) Z.1 dX12_give_20 fl_X12_231 t3 rfl ?_
    refine J_tr (fun r4 er4 => ?_)
    replace hf := lt_i hf r4 er4
    refine J_iload_n Z.1 1 dX12_give_23 rfl rfl ?_
    refine J_lload_n Z.1 2 dX12_give_24 rfl rfl ?_
    refine J_iload Z.1 3 dX12_give_25 rfl ?_
    replace hf := nn_i hf
    obtain ⟨a4, rfl, hf⟩ := hf
    replace hf := bd2_i hf
    obtain ⟨x7, h5, q6, hf⟩ := hf
    refine J_callV (ci := 10) (as := [va_rf (some a4), .int p1, .long p2, .int p4]) (rest := []) (sy := [.int x7]) Z.1 dX12_give_27 cw_X12_257 (pX12_placeNumber_ok G (dk - 1) (by omega) q6) rfl rfl t0 (zG Z) rfl (by decide) (zF Z (by omega)) (zO Z (by omega) (by decide)) (zM _) Z.2.1 Z.2.1 rfl rfl ?_
    cases hf
    exact J_iret Z.1 Z.2.2.2.2.2 dX12_give_30
  · rw [if_pos c1] at hf
    refine J_aload_n Z.1 0 dX12_give_9 rfl rfl ?_
    refine J_iconst Z.1 (v := 2) (by decide) dX12_give_10 ?_
    replace hf := bd2_i hf
    obtain ⟨x10, h8, q9, hf⟩ := hf
    refine J_callV (ci := 10) (as := [.int 2]) (rest := []) (sy := [.int x10]) Z.1 dX12_give_11 cw_X12_143 (pX12_refuse_ok G (dk - 1) (by omega) q9) rfl rfl t0 (zG Z) rfl (by decide) (zF Z (by omega)) (zO Z (by omega) (by decide)) (zM _) Z.2.1 Z.2.1 rfl rfl ?_
    cases hf
    exact J_iret Z.1 Z.2.2.2.2.2 dX12_give_14
theorem dX12_poke_0 : decode cX12_poke 0 = .ok (.iload_n 1, 1) := by decide +kernel
theorem dX12_poke_1 : decode cX12_poke 1 = .ok (.invokestatic 235, 3) := by decide +kernel
theorem dX12_poke_4 : decode cX12_poke 4 = .ok (.ifCond .ne 9, 3) := by decide +kernel
theorem dX12_poke_7 : decode cX12_poke 7 = .ok (.aload_n 0, 1) := by decide +kernel
theorem dX12_poke_8 : decode cX12_poke 8 = .ok (.iconst 2, 1) := by decide +kernel
theorem dX12_poke_9 : decode cX12_poke 9 = .ok (.invokevirtual 143, 3) := by decide +kernel
theorem dX12_poke_12 : decode cX12_poke 12 = .ok (.ireturn, 1) := by decide +kernel
theorem dX12_poke_13 : decode cX12_poke 13 = .ok (.aload_n 0, 1) := by decide +kernel
theorem dX12_poke_14 : decode cX12_poke 14 = .ok (.aload_n 0, 1) := by decide +kernel
theorem dX12_poke_15 : decode cX12_poke 15 = .ok (.getfield 30, 3) := by decide +kernel
theorem dX12_poke_18 : decode cX12_poke 18 = .ok (.getfield 238, 3) := by decide +kernel
theorem dX12_poke_21 : decode cX12_poke 21 = .ok (.iload_n 1, 1) := by decide +kernel
theorem dX12_poke_22 : decode cX12_poke 22 = .ok (.lload_n 2, 1) := by decide +kernel
theorem dX12_poke_23 : decode cX12_poke 23 = .ok (.iload 4, 2) := by decide +kernel
theorem dX12_poke_25 : decode cX12_poke 25 = .ok (.invokevirtual 257, 3) := by decide +kernel
theorem dX12_poke_28 : decode cX12_poke 28 = .ok (.ireturn, 1) := by decide +kernel
def pX12_poke (g : MT) (h : CT) (this : Nat) (p1 : Int32) (p2 : Int64) (p4 : Int32) : Option ((Int32) × CT) := tg g this 11 (if (pX12_isWord p1) = 0 then bd2 (pX12_refuse g h this 2) fun x10 h8 => (some (x10, h8)) else lt (hR h this 4) fun r2 => (nn r2 fun a2 => (tg g a2 3 (lt (hR h a2 3) fun r4 => (nn r4 fun a4 => (bd2 (pX12_placeNumber g h this a4 p1 p2 p4) fun x7 h5 => (some (x7, h5))))))))
set_option maxRecDepth 10000 in
set_option maxHeartbeats 4000000 in
theorem pX12_poke_ok (G : Gx) (dk : Nat) (hK : 5 ≤ dk) {g : MT} {h h0 : CT} {this : Nat} {p1 : Int32} {p2 : Int64} {p4 : Int32} {r0 : Int32} (hf : pX12_poke g h this p1 p2 p4 = some (r0, h0)) : Ctr G dk yX12_poke cX12_poke 5 (some .int) [va_rf (some this), .int p1, .long p2, .int p4] g h (some (.int r0)) g h0 := by
  refine Ctr.ofZ (lv := [(0, va_rf (some this)), (1, .int p1), (2, .long p2), (4, .int p4)]) (by decide +kernel) (by simp [cat_i, cat_l, cat_d, cat_rf]) rfl fun X Z => ?_
  unfold pX12_poke at hf
  replace hf := tg_i hf
  obtain ⟨t0, hf⟩ := hf
  refine J_iload_n Z.1 1 dX12_poke_0 rfl rfl ?_
  refine J_callS (as := [.int p1]) (rest := []) (sy := [.int (pX12_isWord p1)]) Z.1 dX12_poke_1 cw_X12_235 (pX12_isWord_ok G (dk - 1) (by omega) g h p1) (zG Z) rfl (by decide) (zF Z (by omega)) (zO Z (by omega) (by decide)) (zM _) Z.2.1 Z.2.1 rfl rfl ?_
  refine J_if_ne Z.1 13 dX12_poke_4 (by decide) (fun c1 => ?_) (fun c1 => ?_)
  · rw [if_neg c1] at hf
    refine J_aload_n Z.1 0 dX12_poke_13 rfl rfl ?_
    refine J_aload_n Z.1 0 dX12_poke_14 rfl rfl ?_
    refine J_get (v := va_rf (hR h this 4)) Z.1 dX12_poke_15 fl_X12_30 t0 rfl ?_
    refine J_tr (fun r2 er2 => ?_)
    replace hf := lt_i hf r2 er2
    replace hf := nn_i hf
    obtain ⟨a2, rfl, hf⟩ := hf
    replace hf := tg_i hf
    obtain ⟨t3, hf⟩ := hf
    refine J_get (v := va_rf (hR h a2 3)) Z.1 dX12_poke_18 fl_X12_238 t3 rfl ?_
    refine J_tr (fun r4 er4 => ?_)
    replace hf := lt_i hf r4 er4
    refine J_iload_n Z.1 1 dX12_poke_21 rfl rfl ?_
    refine J_lload_n Z.1 2 dX12_poke_22 rfl rfl ?_
    refine J_iload Z.1 3 dX12_poke_23 rfl ?_
    replace hf := nn_i hf
    obtain ⟨a4, rfl, hf⟩ := hf
    replace hf := bd2_i hf
    obtain ⟨x7, h5, q6, hf⟩ := hf
    refine J_callV (ci := 10) (as := [va_rf (some a4), .int p1, .long p2, .int p4]) (rest := []) (sy := [.int x7]) Z.1 dX12_poke_25 cw_X12_257 (pX12_placeNumber_ok G (dk - 1) (by omega) q6) rfl rfl t0 (zG Z) rfl (by decide) (zF Z (by omega)) (zO Z (by omega) (by decide)) (zM _) Z.2.1 Z.2.1 rfl rfl ?_
    cases hf
    exact J_iret Z.1 Z.2.2.2.2.2 dX12_poke_28
  · rw [if_pos c1] at hf
    refine J_aload_n Z.1 0 dX12_poke_7 rfl rfl ?_
    refine J_iconst Z.1 (v := 2) (by decide) dX12_poke_8 ?_
    replace hf := bd2_i hf
    obtain ⟨x10, h8, q9, hf⟩ := hf
    refine J_callV (ci := 10) (as := [.int 2]) (rest := []) (sy := [.int x10]) Z.1 dX12_poke_9 cw_X12_143 (pX12_refuse_ok G (dk - 1) (by omega) q9) rfl rfl t0 (zG Z) rfl (by decide) (zF Z (by omega)) (zO Z (by omega) (by decide)) (zM _) Z.2.1 Z.2.1 rfl rfl ?_
    cases hf
    exact J_iret Z.1 Z.2.2.2.2.2 dX12_poke_12
theorem dX6_tokenFault_0 : decode cX6_tokenFault 0 = .ok (.aload_n 0, 1) := by decide +kernel
theorem dX6_tokenFault_1 : decode cX6_tokenFault 1 = .ok (.getfield 76, 3) := by decide +kernel
theorem dX6_tokenFault_4 : decode cX6_tokenFault 4 = .ok (.ifCond .ne 5, 3) := by decide +kernel
theorem dX6_tokenFault_7 : decode cX6_tokenFault 7 = .ok (.iconst 1, 1) := by decide +kernel
theorem dX6_tokenFault_8 : decode cX6_tokenFault 8 = .ok (.ireturn, 1) := by decide +kernel
theorem dX6_tokenFault_9 : decode cX6_tokenFault 9 = .ok (.aload_n 0, 1) := by decide +kernel
theorem dX6_tokenFault_10 : decode cX6_tokenFault 10 = .ok (.getfield 51, 3) := by decide +kernel
theorem dX6_tokenFault_13 : decode cX6_tokenFault 13 = .ok (.aload_n 0, 1) := by decide +kernel
theorem dX6_tokenFault_14 : decode cX6_tokenFault 14 = .ok (.getfield 24, 3) := by decide +kernel
theorem dX6_tokenFault_17 : decode cX6_tokenFault 17 = .ok (.invokevirtual 68, 3) := by decide +kernel
theorem dX6_tokenFault_20 : decode cX6_tokenFault 20 = .ok (.if_icmp .ge 10, 3) := by decide +kernel
theorem dX6_tokenFault_23 : decode cX6_tokenFault 23 = .ok (.aload_n 0, 1) := by decide +kernel
theorem dX6_tokenFault_24 : decode cX6_tokenFault 24 = .ok (.invokevirtual 79, 3) := by decide +kernel
theorem dX6_tokenFault_27 : decode cX6_tokenFault 27 = .ok (.goto 7, 3) := by decide +kernel
theorem dX6_tokenFault_30 : decode cX6_tokenFault 30 = .ok (.aload_n 0, 1) := by decide +kernel
theorem dX6_tokenFault_31 : decode cX6_tokenFault 31 = .ok (.invokevirtual 82, 3) := by decide +kernel
theorem dX6_tokenFault_34 : decode cX6_tokenFault 34 = .ok (.ireturn, 1) := by decide +kernel
def pX6_tokenFault (E : EC) (g : MT) (h : CT) (this : Nat) : Option ((Int32) × MT × CT) := gq (fun z => z.2.1) g (tg g this 5 (if (hI h this 6) = 0 then some (1, g, h) else lt (hR h this 9) fun r3 => (nn r3 fun a3 => (tg E.2.2 a3 61 (bd (pJ0_length_8abf5 E g h a3) fun x5 => (if x5 ≤ (hI h this 10) then bd3 (pX6_beginInstruction E g h this) fun x12 g8 h9 => (gq (fun z => z.2.1) g8 (some (x12, g8, h9))) else bd2 (pX6_follow E g h this) fun x16 h14 => (some (x16, g, h14))))))))
theorem pX6_tokenFault_mono {E : EC} {g g0 : MT} {h h0 : CT} {this : Nat} {r0 : Int32} (hf : pX6_tokenFault E g h this = some (r0, g0, h0)) : gN g ≤ gN g0 ∧ gU g ≤ gU g0 := by
  unfold pX6_tokenFault at hf
  exact (gq_i hf).1
set_option maxRecDepth 10000 in
set_option maxHeartbeats 4000000 in
theorem pX6_tokenFault_ok (G : Gx) (dk : Nat) (hK : 7 ≤ dk) {E : EC} (hE : G.2.2.2 = E) {g g0 : MT} {h h0 : CT} {this : Nat} {r0 : Int32} (hf : pX6_tokenFault E g h this = some (r0, g0, h0)) : Ctr G dk yX6_tokenFault cX6_tokenFault 1 (some .int) [va_rf (some this)] g h (some (.int r0)) g0 h0 := by
  unfold pX6_tokenFault at hf
  replace hf := gq_i hf
  obtain ⟨hm, hf⟩ := hf
  refine Ctr.ofY (lv := [(0, va_rf (some this))]) (by decide +kernel) (by simp [cat_i, cat_l, cat_d, cat_rf]) rfl hm fun X Z M => ?_
  refine J_aload_n Z.1 0 dX6_tokenFault_0 rfl rfl ?_
  replace hf := tg_i hf
  obtain ⟨t1, hf⟩ := hf
  refine J_get (v := .int (hI h this 6)) Z.1 dX6_tokenFault_1 fl_X6_76 t1 rfl ?_
  refine J_if_ne Z.1 9 dX6_tokenFault_4 (by decide) (fun c2 => ?_) (fun c2 => ?_)
  · rw [if_neg c2] at hf
    refine J_aload_n Z.1 0 dX6_tokenFault_9 rfl rfl ?_
    refine J_get (v := .int (hI h this 10)) Z.1 dX6_tokenFault_10 fl_X6_51 t1 rfl ?_
    refine J_aload_n Z.1 0 dX6_tokenFault_13 rfl rfl ?_
    refine J_get (v := va_rf (hR h this 9)) Z.1 dX6_tokenFault_14 fl_X6_24 t1 rfl ?_
    refine J_tr (fun r3 er3 => ?_)
    replace hf := lt_i hf r3 er3
    replace hf := nn_i hf
    obtain ⟨a3, rfl, hf⟩ := hf
    replace hf := tg_i hf
    obtain ⟨t4, hf⟩ := hf
    rw [← yE Z hE] at t4
    replace hf := bd_i hf
    obtain ⟨x5, q6, hf⟩ := hf
    refine J_callK (as := []) (rest := [.int (hI h this 10)]) (sy := [.int x5, .int (hI h this 10)]) Z.1 dX6_tokenFault_17 cw_X6_68 (pJ0_length_8abf5_ok G (dk - 1) (by omega) hE q6) (kT Z.1 t4) (yG Z) rfl (by simp [cat_i, cat_l, cat_d, cat_rf]) (yF Z (by omega)) (yO Z (by omega) (by decide)) (zM _) M M rfl rfl ?_
    refine J_icmp_ge Z.1 30 dX6_tokenFault_20 (by decide) (fun c7 => ?_) (fun c7 => ?_)
    · rw [if_pos c7] at hf
      refine J_aload_n Z.1 0 dX6_tokenFault_30 rfl rfl ?_
      replace hf := bd3_i hf
      obtain ⟨x12, g8, h9, q10, hf⟩ := hf
      replace hf := gq_i hf
      obtain ⟨n11, hf⟩ := hf
      have M13o := pX6_beginInstruction_mono q10
      have M13 := rmC Z M M13o n11
      refine J_callV (ci := 4) (as := []) (rest := []) (sy := [.int x12]) Z.1 dX6_tokenFault_31 cw_X6_82 (pX6_beginInstruction_ok G (dk - 1) (by omega) hE q10) rfl rfl t1 (yG Z) rfl (by decide) (yF Z (by omega)) (yO Z (by omega) (by decide)) M13o M M13 rfl rfl ?_
      cases hf
      exact J_iret Z.1 Z.2.2.2.2.1 dX6_tokenFault_34
    · rw [if_neg c7] at hf
      refine J_aload_n Z.1 0 dX6_tokenFault_23 rfl rfl ?_
      replace hf := bd2_i hf
      obtain ⟨x16, h14, q15, hf⟩ := hf
      refine J_callV (ci := 4) (as := []) (rest := []) (sy := [.int x16]) Z.1 dX6_tokenFault_24 cw_X6_79 (pX6_follow_ok G (dk - 1) (by omega) hE q15) rfl rfl t1 (yG Z) rfl (by decide) (yF Z (by omega)) (yO Z (by omega) (by decide)) (zM _) M M rfl rfl ?_
      refine J_goto Z.1 34 dX6_tokenFault_27 (by decide) ?_
      cases hf
      exact J_iret Z.1 Z.2.2.2.2.1 dX6_tokenFault_34
  · rw [if_pos c2] at hf
    refine J_iconst Z.1 (v := 1) (by decide) dX6_tokenFault_7 ?_
    cases hf
    exact J_iret Z.1 Z.2.2.2.2.1 dX6_tokenFault_8
theorem dX9_perform_0 : decode cX9_perform 0 = .ok (.aload_n 0, 1) := by decide +kernel
theorem dX9_perform_1 : decode cX9_perform 1 = .ok (.aload_n 1, 1) := by decide +kernel
theorem dX9_perform_2 : decode cX9_perform 2 = .ok (.putfield 34, 3) := by decide +kernel
theorem dX9_perform_5 : decode cX9_perform 5 = .ok (.aload_n 0, 1) := by decide +kernel
theorem dX9_perform_6 : decode cX9_perform 6 = .ok (.aload_n 2, 1) := by decide +kernel
theorem dX9_perform_7 : decode cX9_perform 7 = .ok (.putfield 38, 3) := by decide +kernel
theorem dX9_perform_10 : decode cX9_perform 10 = .ok (.aload_n 0, 1) := by decide +kernel
theorem dX9_perform_11 : decode cX9_perform 11 = .ok (.getfield 38, 3) := by decide +kernel
theorem dX9_perform_14 : decode cX9_perform 14 = .ok (.invokevirtual 42, 3) := by decide +kernel
theorem dX9_perform_17 : decode cX9_perform 17 = .ok (.aload_n 0, 1) := by decide +kernel
theorem dX9_perform_18 : decode cX9_perform 18 = .ok (.aconst_null, 1) := by decide +kernel
theorem dX9_perform_19 : decode cX9_perform 19 = .ok (.putfield 47, 3) := by decide +kernel
theorem dX9_perform_22 : decode cX9_perform 22 = .ok (.aload_n 0, 1) := by decide +kernel
theorem dX9_perform_23 : decode cX9_perform 23 = .ok (.iconst 0, 1) := by decide +kernel
theorem dX9_perform_24 : decode cX9_perform 24 = .ok (.putfield 51, 3) := by decide +kernel
theorem dX9_perform_27 : decode cX9_perform 27 = .ok (.iconst 0, 1) := by decide +kernel
theorem dX9_perform_28 : decode cX9_perform 28 = .ok (.istore_n 3, 1) := by decide +kernel
theorem dX9_perform_29 : decode cX9_perform 29 = .ok (.iconst 0, 1) := by decide +kernel
theorem dX9_perform_30 : decode cX9_perform 30 = .ok (.istore 4, 2) := by decide +kernel
theorem dX9_perform_32 : decode cX9_perform 32 = .ok (.iload 4, 2) := by decide +kernel
theorem dX9_perform_34 : decode cX9_perform 34 = .ok (.ldc 55, 2) := by decide +kernel
theorem dX9_perform_36 : decode cX9_perform 36 = .ok (.if_icmp .ge 150, 3) := by decide +kernel
theorem dX9_perform_39 : decode cX9_perform 39 = .ok (.iload_n 3, 1) := by decide +kernel
theorem dX9_perform_40 : decode cX9_perform 40 = .ok (.iconst (-1), 1) := by decide +kernel
theorem dX9_perform_41 : decode cX9_perform 41 = .ok (.if_icmp .eq 145, 3) := by decide +kernel
theorem dX9_perform_44 : decode cX9_perform 44 = .ok (.aload_n 0, 1) := by decide +kernel
theorem dX9_perform_45 : decode cX9_perform 45 = .ok (.getfield 34, 3) := by decide +kernel
theorem dX9_perform_48 : decode cX9_perform 48 = .ok (.getfield 56, 3) := by decide +kernel
theorem dX9_perform_51 : decode cX9_perform 51 = .ok (.iload_n 3, 1) := by decide +kernel
theorem dX9_perform_52 : decode cX9_perform 52 = .ok (.invokevirtual 62, 3) := by decide +kernel
theorem dX9_perform_55 : decode cX9_perform 55 = .ok (.astore 5, 2) := by decide +kernel
theorem dX9_perform_57 : decode cX9_perform 57 = .ok (.aload_n 0, 1) := by decide +kernel
theorem dX9_perform_58 : decode cX9_perform 58 = .ok (.getfield 47, 3) := by decide +kernel
theorem dX9_perform_61 : decode cX9_perform 61 = .ok (.ifnull 22, 3) := by decide +kernel
theorem dX9_perform_64 : decode cX9_perform 64 = .ok (.iload_n 3, 1) := by decide +kernel
theorem dX9_perform_65 : decode cX9_perform 65 = .ok (.aload_n 0, 1) := by decide +kernel
theorem dX9_perform_66 : decode cX9_perform 66 = .ok (.getfield 47, 3) := by decide +kernel
theorem dX9_perform_69 : decode cX9_perform 69 = .ok (.getfield 68, 3) := by decide +kernel
theorem dX9_perform_72 : decode cX9_perform 72 = .ok (.if_icmp .lt 11, 3) := by decide +kernel
theorem dX9_perform_75 : decode cX9_perform 75 = .ok (.aload_n 0, 1) := by decide +kernel
theorem dX9_perform_76 : decode cX9_perform 76 = .ok (.invokevirtual 73, 3) := by decide +kernel
theorem dX9_perform_79 : decode cX9_perform 79 = .ok (.istore_n 3, 1) := by decide +kernel
theorem dX9_perform_80 : decode cX9_perform 80 = .ok (.goto 100, 3) := by decide +kernel
theorem dX9_perform_83 : decode cX9_perform 83 = .ok (.aload 5, 2) := by decide +kernel
theorem dX9_perform_85 : decode cX9_perform 85 = .ok (.ifnonnull 8, 3) := by decide +kernel
theorem dX9_perform_88 : decode cX9_perform 88 = .ok (.iconst (-1), 1) := by decide +kernel
theorem dX9_perform_89 : decode cX9_perform 89 = .ok (.istore_n 3, 1) := by decide +kernel
theorem dX9_perform_90 : decode cX9_perform 90 = .ok (.goto 90, 3) := by decide +kernel
theorem dX9_perform_93 : decode cX9_perform 93 = .ok (.aload_n 0, 1) := by decide +kernel
theorem dX9_perform_94 : decode cX9_perform 94 = .ok (.getfield 38, 3) := by decide +kernel
theorem dX9_perform_97 : decode cX9_perform 97 = .ok (.iload_n 3, 1) := by decide +kernel
theorem dX9_perform_98 : decode cX9_perform 98 = .ok (.aload 5, 2) := by decide +kernel
theorem dX9_perform_100 : decode cX9_perform 100 = .ok (.aload_n 0, 1) := by decide +kernel
theorem dX9_perform_101 : decode cX9_perform 101 = .ok (.getfield 34, 3) := by decide +kernel
theorem dX9_perform_104 : decode cX9_perform 104 = .ok (.getfield 77, 3) := by decide +kernel
theorem dX9_perform_107 : decode cX9_perform 107 = .ok (.invokevirtual 80, 3) := by decide +kernel
theorem dX9_perform_110 : decode cX9_perform 110 = .ok (.aload 5, 2) := by decide +kernel
theorem dX9_perform_112 : decode cX9_perform 112 = .ok (.getfield 84, 3) := by decide +kernel
theorem dX9_perform_115 : decode cX9_perform 115 = .ok (.getfield 88, 3) := by decide +kernel
theorem dX9_perform_118 : decode cX9_perform 118 = .ok (.iconst (-1), 1) := by decide +kernel
theorem dX9_perform_119 : decode cX9_perform 119 = .ok (.if_icmp .ne 13, 3) := by decide +kernel
theorem dX9_perform_122 : decode cX9_perform 122 = .ok (.aload_n 0, 1) := by decide +kernel
theorem dX9_perform_123 : decode cX9_perform 123 = .ok (.iload_n 3, 1) := by decide +kernel
theorem dX9_perform_124 : decode cX9_perform 124 = .ok (.aload 5, 2) := by decide +kernel
theorem dX9_perform_126 : decode cX9_perform 126 = .ok (.invokevirtual 93, 3) := by decide +kernel
theorem dX9_perform_129 : decode cX9_perform 129 = .ok (.goto 10, 3) := by decide +kernel
theorem dX9_perform_132 : decode cX9_perform 132 = .ok (.aload_n 0, 1) := by decide +kernel
theorem dX9_perform_133 : decode cX9_perform 133 = .ok (.iload_n 3, 1) := by decide +kernel
theorem dX9_perform_134 : decode cX9_perform 134 = .ok (.aload 5, 2) := by decide +kernel
theorem dX9_perform_136 : decode cX9_perform 136 = .ok (.invokevirtual 97, 3) := by decide +kernel
theorem dX9_perform_139 : decode cX9_perform 139 = .ok (.istore 6, 2) := by decide +kernel
theorem dX9_perform_141 : decode cX9_perform 141 = .ok (.aload_n 0, 1) := by decide +kernel
theorem dX9_perform_142 : decode cX9_perform 142 = .ok (.getfield 38, 3) := by decide +kernel
theorem dX9_perform_145 : decode cX9_perform 145 = .ok (.dup, 1) := by decide +kernel
theorem dX9_perform_146 : decode cX9_perform 146 = .ok (.getfield 100, 3) := by decide +kernel
theorem dX9_perform_149 : decode cX9_perform 149 = .ok (.iload 6, 2) := by decide +kernel
theorem dX9_perform_151 : decode cX9_perform 151 = .ok (.ifCond .eq 7, 3) := by decide +kernel
theorem dX9_perform_154 : decode cX9_perform 154 = .ok (.iconst 1, 1) := by decide +kernel
theorem dX9_perform_155 : decode cX9_perform 155 = .ok (.goto 4, 3) := by decide +kernel
theorem dX9_perform_158 : decode cX9_perform 158 = .ok (.iconst 0, 1) := by decide +kernel
theorem dX9_perform_159 : decode cX9_perform 159 = .ok (.iadd, 1) := by decide +kernel
theorem dX9_perform_160 : decode cX9_perform 160 = .ok (.putfield 100, 3) := by decide +kernel
theorem dX9_perform_163 : decode cX9_perform 163 = .ok (.iload 6, 2) := by decide +kernel
theorem dX9_perform_165 : decode cX9_perform 165 = .ok (.ifCond .eq 13, 3) := by decide +kernel
theorem dX9_perform_168 : decode cX9_perform 168 = .ok (.aload_n 0, 1) := by decide +kernel
theorem dX9_perform_169 : decode cX9_perform 169 = .ok (.iload_n 3, 1) := by decide +kernel
theorem dX9_perform_170 : decode cX9_perform 170 = .ok (.aload 5, 2) := by decide +kernel
theorem dX9_perform_172 : decode cX9_perform 172 = .ok (.invokevirtual 103, 3) := by decide +kernel
theorem dX9_perform_175 : decode cX9_perform 175 = .ok (.goto 4, 3) := by decide +kernel
theorem dX9_perform_178 : decode cX9_perform 178 = .ok (.iconst (-1), 1) := by decide +kernel
theorem dX9_perform_179 : decode cX9_perform 179 = .ok (.istore_n 3, 1) := by decide +kernel
theorem dX9_perform_180 : decode cX9_perform 180 = .ok (.iinc 4 1, 3) := by decide +kernel
theorem dX9_perform_183 : decode cX9_perform 183 = .ok (.goto (-151), 3) := by decide +kernel
theorem dX9_perform_186 : decode cX9_perform 186 = .ok (.return_, 1) := by decide +kernel
def pX9_perform_b180 (E : EC) (g : MT) (this : Nat) (p1 : Nat) (p2 : Nat) (k32 : Int32 → Int32 → CT → Option CT) (l3 : Int32) (l4 : Int32) (h : CT) : Option CT := lt (l4 + 1) fun x1 => (k32 l3 x1 h)
set_option maxRecDepth 10000 in
set_option maxHeartbeats 4000000 in
theorem pX9_perform_b180_ok {X : Cx} {G : Gx} {dk : Nat} {g : MT} {h0 : CT} {this : Nat} {p1 : Nat} {p2 : Nat} {k32 : Int32 → Int32 → CT → Option CT} (Z : Zx X G cX9_perform RX9 7 dk none none g h0) (hK : 5 ≤ dk) {E : EC} (hE : G.2.2.2 = E) (t0 : gT g this = 8) (hk32 : ∀ (l3 : Int32) (l4 : Int32) (h : CT), k32 l3 l4 h = some h0 → J X g h 32 [(0, va_rf (some this)), (3, .int l3), (4, .int l4)] []) (l3 : Int32) (l4 : Int32) (h : CT) (hf : pX9_perform_b180 E g this p1 p2 k32 l3 l4 h = some h0) : J X g h 180 [(0, va_rf (some this)), (3, .int l3), (4, .int l4)] [] := by
  unfold pX9_perform_b180 at hf
  refine J_iinc Z.1 (v := 1) (lv2 := [(4, .int (l4 + 1)), (0, va_rf (some this)), (3, .int l3)]) 2 dX9_perform_180 rfl (by decide) (zL Z (by decide)) rfl ?_
  obtain ⟨x1, ex1⟩ : ∃ z, z = (l4 + 1) := ⟨_, rfl⟩
  replace hf := lt_i hf x1 ex1
  rw [← ex1]
  refine J_goto Z.1 32 dX9_perform_183 (by decide) ?_
  refine J_lv [1, 2, 0] rfl ?_
  exact hk32 _ _ _ hf
def pX9_perform_b179 (E : EC) (g : MT) (this : Nat) (p1 : Nat) (p2 : Nat) (k32 : Int32 → Int32 → CT → Option CT) (l4 : Int32) (s0 : Int32) (h : CT) : Option CT := pX9_perform_b180 E g this p1 p2 k32 s0 l4 h
set_option maxRecDepth 10000 in
set_option maxHeartbeats 4000000 in
theorem pX9_perform_b179_ok {X : Cx} {G : Gx} {dk : Nat} {g : MT} {h0 : CT} {this : Nat} {p1 : Nat} {p2 : Nat} {k32 : Int32 → Int32 → CT → Option CT} (Z : Zx X G cX9_perform RX9 7 dk none none g h0) (hK : 5 ≤ dk) {E : EC} (hE : G.2.2.2 = E) (t0 : gT g this = 8) (hk32 : ∀ (l3 : Int32) (l4 : Int32) (h : CT), k32 l3 l4 h = some h0 → J X g h 32 [(0, va_rf (some this)), (3, .int l3), (4, .int l4)] []) (l4 : Int32) (s0 : Int32) (h : CT) (hf : pX9_perform_b179 E g this p1 p2 k32 l4 s0 h = some h0) : J X g h 179 [(0, va_rf (some this)), (4, .int l4)] [.int s0] := by
  unfold pX9_perform_b179 at hf
  refine J_istore_n Z.1 (lv2 := [(3, .int s0), (0, va_rf (some this)), (4, .int l4)]) dX9_perform_179 rfl (zL Z (by decide)) rfl ?_
  refine J_lv [1, 0, 2] rfl ?_
  exact pX9_perform_b180_ok Z hK hE t0 hk32 _ _ _ hf
def pX9_perform_b159 (E : EC) (g : MT) (this : Nat) (p1 : Nat) (p2 : Nat) (k32 : Int32 → Int32 → CT → Option CT) (l3 : Int32) (l4 : Int32) (r95 : Option Nat) (l6 : Int32) (r80 : Option Nat) (s1 : Int32) (s2 : Int32) (h : CT) : Option CT := nn r80 fun a80 => (tg g a80 9 (lt (sI h a80 2 (s1 + s2)) fun h2 => (if l6 = 0 then pX9_perform_b179 E g this p1 p2 k32 l4 (-1) h2 else nn r95 fun a95 => (bd2 (pX9_behind E g h2 this l3 a95) fun x6 h4 => (pX9_perform_b179 E g this p1 p2 k32 l4 x6 h4)))))
set_option maxRecDepth 10000 in
set_option maxHeartbeats 4000000 in
theorem pX9_perform_b159_ok {X : Cx} {G : Gx} {dk : Nat} {g : MT} {h0 : CT} {this : Nat} {p1 : Nat} {p2 : Nat} {k32 : Int32 → Int32 → CT → Option CT} (Z : Zx X G cX9_perform RX9 7 dk none none g h0) (hK : 5 ≤ dk) {E : EC} (hE : G.2.2.2 = E) (t0 : gT g this = 8) (hk32 : ∀ (l3 : Int32) (l4 : Int32) (h : CT), k32 l3 l4 h = some h0 → J X g h 32 [(0, va_rf (some this)), (3, .int l3), (4, .int l4)] []) (l3 : Int32) (l4 : Int32) (r95 : Option Nat) (l6 : Int32) (r80 : Option Nat) (s1 : Int32) (s2 : Int32) (h : CT) (hf : pX9_perform_b159 E g this p1 p2 k32 l3 l4 r95 l6 r80 s1 s2 h = some h0) : J X g h 159 [(0, va_rf (some this)), (3, .int l3), (4, .int l4), (5, va_rf r95), (6, .int l6)] [.int s2, .int s1, va_rf r80] := by
  unfold pX9_perform_b159 at hf
  refine J_iadd Z.1 dX9_perform_159 ?_
  replace hf := nn_i hf
  obtain ⟨a80, rfl, hf⟩ := hf
  replace hf := tg_i hf
  obtain ⟨t1, hf⟩ := hf
  refine J_putI Z.1 dX9_perform_160 fl_X9_100 (fun q => by cases q) t1 rfl rfl (congrArg Value.int (hI_s _ _ _ _)) ?_
  refine J_th (fun h2 eh2 => ?_)
  replace hf := lt_i hf h2 eh2
  refine J_iload Z.1 4 dX9_perform_163 rfl ?_
  refine J_if_eq Z.1 178 dX9_perform_165 (by decide) (fun c3 => ?_) (fun c3 => ?_)
  · rw [if_pos c3] at hf
    refine J_iconst Z.1 (v := (-1)) (by decide) dX9_perform_178 ?_
    refine J_lv [0, 2] rfl ?_
    exact pX9_perform_b179_ok Z hK hE t0 hk32 _ _ _ hf
  · rw [if_neg c3] at hf
    refine J_aload_n Z.1 0 dX9_perform_168 rfl rfl ?_
    refine J_iload_n Z.1 1 dX9_perform_169 rfl rfl ?_
    refine J_aload Z.1 3 dX9_perform_170 rfl ?_
    replace hf := nn_i hf
    obtain ⟨a95, rfl, hf⟩ := hf
    replace hf := bd2_i hf
    obtain ⟨x6, h4, q5, hf⟩ := hf
    refine J_callV (ci := 7) (as := [.int l3, va_rf (some a95)]) (rest := []) (sy := [.int x6]) Z.1 dX9_perform_172 cw_X9_103 (pX9_behind_ok G (dk - 1) (by omega) hE q5) rfl rfl t0 (zG Z) rfl (by decide) (zF Z (by omega)) (zO Z (by omega) (by decide)) (zM _) Z.2.1 Z.2.1 rfl rfl ?_
    refine J_goto Z.1 179 dX9_perform_175 (by decide) ?_
    refine J_lv [0, 2] rfl ?_
    exact pX9_perform_b179_ok Z hK hE t0 hk32 _ _ _ hf
def pX9_perform_b139 (E : EC) (g : MT) (this : Nat) (p1 : Nat) (p2 : Nat) (k32 : Int32 → Int32 → CT → Option CT) (l3 : Int32) (l4 : Int32) (r95 : Option Nat) (s0 : Int32) (h : CT) : Option CT := lt (hR h this 5) fun r1 => (nn r1 fun a1 => (tg g a1 9 (if s0 = 0 then pX9_perform_b159 E g this p1 p2 k32 l3 l4 r95 s0 (some a1) (hI h a1 2) 0 h else pX9_perform_b159 E g this p1 p2 k32 l3 l4 r95 s0 (some a1) (hI h a1 2) 1 h)))
set_option maxRecDepth 10000 in
set_option maxHeartbeats 4000000 in
theorem pX9_perform_b139_ok {X : Cx} {G : Gx} {dk : Nat} {g : MT} {h0 : CT} {this : Nat} {p1 : Nat} {p2 : Nat} {k32 : Int32 → Int32 → CT → Option CT} (Z : Zx X G cX9_perform RX9 7 dk none none g h0) (hK : 5 ≤ dk) {E : EC} (hE : G.2.2.2 = E) (t0 : gT g this = 8) (hk32 : ∀ (l3 : Int32) (l4 : Int32) (h : CT), k32 l3 l4 h = some h0 → J X g h 32 [(0, va_rf (some this)), (3, .int l3), (4, .int l4)] []) (l3 : Int32) (l4 : Int32) (r95 : Option Nat) (s0 : Int32) (h : CT) (hf : pX9_perform_b139 E g this p1 p2 k32 l3 l4 r95 s0 h = some h0) : J X g h 139 [(0, va_rf (some this)), (3, .int l3), (4, .int l4), (5, va_rf r95)] [.int s0] := by
  unfold pX9_perform_b139 at hf
  refine J_istore Z.1 (lv2 := [(6, .int s0), (0, va_rf (some this)), (3, .int l3), (4, .int l4), (5, va_rf r95)]) dX9_perform_139 (zL Z (by decide)) (by simp [ls1, ls2, cat_i, cat_l, cat_d, cat_rf]) ?_
  refine J_aload_n Z.1 1 dX9_perform_141 rfl rfl ?_
  refine J_get (v := va_rf (hR h this 5)) Z.1 dX9_perform_142 fl_X9_38 t0 rfl ?_
  refine J_tr (fun r1 er1 => ?_)
  replace hf := lt_i hf r1 er1
  refine J_dup Z.1 dX9_perform_145 (by simp [cat_i, cat_l, cat_d, cat_rf]) ?_
  replace hf := nn_i hf
  obtain ⟨a1, rfl, hf⟩ := hf
  replace hf := tg_i hf
  obtain ⟨t2, hf⟩ := hf
  refine J_get (v := .int (hI h a1 2)) Z.1 dX9_perform_146 fl_X9_100 t2 rfl ?_
  refine J_iload Z.1 0 dX9_perform_149 rfl ?_
  refine J_if_eq Z.1 158 dX9_perform_151 (by decide) (fun c3 => ?_) (fun c3 => ?_)
  · rw [if_pos c3] at hf
    refine J_iconst Z.1 (v := 0) (by decide) dX9_perform_158 ?_
    refine J_lv [1, 2, 3, 4, 0] rfl ?_
    exact pX9_perform_b159_ok Z hK hE t0 hk32 _ _ _ _ _ _ _ _ hf
  · rw [if_neg c3] at hf
    refine J_iconst Z.1 (v := 1) (by decide) dX9_perform_154 ?_
    refine J_goto Z.1 159 dX9_perform_155 (by decide) ?_
    refine J_lv [1, 2, 3, 4, 0] rfl ?_
    exact pX9_perform_b159_ok Z hK hE t0 hk32 _ _ _ _ _ _ _ _ hf
def pX9_perform_b83 (E : EC) (g : MT) (this : Nat) (p1 : Nat) (p2 : Nat) (k32 : Int32 → Int32 → CT → Option CT) (l3 : Int32) (l4 : Int32) (r95 : Option Nat) (h : CT) : Option CT := if r95 = none then pX9_perform_b180 E g this p1 p2 k32 (-1) l4 h else lt (hR h this 5) fun r2 => (lt (hR h this 4) fun r3 => (nn r3 fun a3 => (tg g a3 3 (nn r2 fun a2 => (tg g a2 9 (nn r95 fun a95 => (bd (pX10_beginInstr E g h a2 l3 a95 (hI h a3 5)) fun h6 => (tg g a95 2 (lt (hR h6 a95 0) fun r9 => (nn r9 fun a9 => (tg E.2.2 a9 60 (if (hI E.2.1 a9 2) = (-1) then bd2 (pX9_doAtOnce E g h6 this l3 a95) fun x17 h15 => (pX9_perform_b139 E g this p1 p2 k32 l3 l4 (some a95) x17 h15) else bd2 (pX9_doElements E g h6 this l3 a95) fun x14 h12 => (pX9_perform_b139 E g this p1 p2 k32 l3 l4 (some a95) x14 h12)))))))))))))
set_option maxRecDepth 10000 in
set_option maxHeartbeats 4000000 in
theorem pX9_perform_b83_ok {X : Cx} {G : Gx} {dk : Nat} {g : MT} {h0 : CT} {this : Nat} {p1 : Nat} {p2 : Nat} {k32 : Int32 → Int32 → CT → Option CT} (Z : Zx X G cX9_perform RX9 7 dk none none g h0) (hK : 5 ≤ dk) {E : EC} (hE : G.2.2.2 = E) (t0 : gT g this = 8) (hk32 : ∀ (l3 : Int32) (l4 : Int32) (h : CT), k32 l3 l4 h = some h0 → J X g h 32 [(0, va_rf (some this)), (3, .int l3), (4, .int l4)] []) (l3 : Int32) (l4 : Int32) (r95 : Option Nat) (h : CT) (hf : pX9_perform_b83 E g this p1 p2 k32 l3 l4 r95 h = some h0) : J X g h 83 [(0, va_rf (some this)), (3, .int l3), (4, .int l4), (5, va_rf r95)] [] := by
  unfold pX9_perform_b83 at hf
  refine J_aload Z.1 3 dX9_perform_83 rfl ?_
  refine J_ifnonnull Z.1 93 dX9_perform_85 (by decide) (fun c1 => ?_) (fun c1 => ?_)
  · rw [if_neg c1] at hf
    refine J_aload_n Z.1 0 dX9_perform_93 rfl rfl ?_
    refine J_get (v := va_rf (hR h this 5)) Z.1 dX9_perform_94 fl_X9_38 t0 rfl ?_
    refine J_tr (fun r2 er2 => ?_)
    replace hf := lt_i hf r2 er2
    refine J_iload_n Z.1 1 dX9_perform_97 rfl rfl ?_
    refine J_aload Z.1 3 dX9_perform_98 rfl ?_
    refine J_aload_n Z.1 0 dX9_perform_100 rfl rfl ?_
    refine J_get (v := va_rf (hR h this 4)) Z.1 dX9_perform_101 fl_X9_34 t0 rfl ?_
    refine J_tr (fun r3 er3 => ?_)
    replace hf := lt_i hf r3 er3
    replace hf := nn_i hf
    obtain ⟨a3, rfl, hf⟩ := hf
    replace hf := tg_i hf
    obtain ⟨t4, hf⟩ := hf
    refine J_get (v := .int (hI h a3 5)) Z.1 dX9_perform_104 fl_X9_77 t4 rfl ?_
    replace hf := nn_i hf
    obtain ⟨a2, rfl, hf⟩ := hf
    replace hf := tg_i hf
    obtain ⟨t5, hf⟩ := hf
    replace hf := nn_i hf
    obtain ⟨a95, rfl, hf⟩ := hf
    replace hf := bd_i hf
    obtain ⟨h6, q7, hf⟩ := hf
    refine J_callV (ci := 8) (as := [.int l3, va_rf (some a95), .int (hI h a3 5)]) (rest := []) (sy := []) Z.1 dX9_perform_107 cw_X9_80 (pX10_beginInstr_ok G (dk - 1) (by omega) hE q7) rfl rfl t5 (zG Z) rfl (by decide) (zF Z (by omega)) (zO Z (by omega) (by decide)) (zM _) Z.2.1 Z.2.1 rfl rfl ?_
    refine J_aload Z.1 3 dX9_perform_110 rfl ?_
    replace hf := tg_i hf
    obtain ⟨t8, hf⟩ := hf
    refine J_get (v := va_rf (hR h6 a95 0)) Z.1 dX9_perform_112 fl_X9_84 t8 rfl ?_
    refine J_tr (fun r9 er9 => ?_)
    replace hf := lt_i hf r9 er9
    replace hf := nn_i hf
    obtain ⟨a9, rfl, hf⟩ := hf
    replace hf := tg_i hf
    obtain ⟨t10, hf⟩ := hf
    rw [← zE Z hE] at t10
    refine J_getO (k := 2) (v := .int (hI E.2.1 a9 2)) Z.1 dX9_perform_115 rfl t10 q_2182 (by rw [zE Z hE]; rfl) rfl ?_
    refine J_iconst Z.1 (v := (-1)) (by decide) dX9_perform_118 ?_
    refine J_icmp_ne Z.1 132 dX9_perform_119 (by decide) (fun c11 => ?_) (fun c11 => ?_)
    · rw [if_neg c11] at hf
      refine J_aload_n Z.1 0 dX9_perform_132 rfl rfl ?_
      refine J_iload_n Z.1 1 dX9_perform_133 rfl rfl ?_
      refine J_aload Z.1 3 dX9_perform_134 rfl ?_
      replace hf := bd2_i hf
      obtain ⟨x14, h12, q13, hf⟩ := hf
      refine J_callV (ci := 7) (as := [.int l3, va_rf (some a95)]) (rest := []) (sy := [.int x14]) Z.1 dX9_perform_136 cw_X9_97 (pX9_doElements_ok G (dk - 1) (by omega) hE q13) rfl rfl t0 (zG Z) rfl (by decide) (zF Z (by omega)) (zO Z (by omega) (by decide)) (zM _) Z.2.1 Z.2.1 rfl rfl ?_
      exact pX9_perform_b139_ok Z hK hE t0 hk32 _ _ _ _ _ hf
    · rw [if_pos c11] at hf
      refine J_aload_n Z.1 0 dX9_perform_122 rfl rfl ?_
      refine J_iload_n Z.1 1 dX9_perform_123 rfl rfl ?_
      refine J_aload Z.1 3 dX9_perform_124 rfl ?_
      replace hf := bd2_i hf
      obtain ⟨x17, h15, q16, hf⟩ := hf
      refine J_callV (ci := 7) (as := [.int l3, va_rf (some a95)]) (rest := []) (sy := [.int x17]) Z.1 dX9_perform_126 cw_X9_93 (pX9_doAtOnce_ok G (dk - 1) (by omega) hE q16) rfl rfl t0 (zG Z) rfl (by decide) (zF Z (by omega)) (zO Z (by omega) (by decide)) (zM _) Z.2.1 Z.2.1 rfl rfl ?_
      refine J_goto Z.1 139 dX9_perform_129 (by decide) ?_
      exact pX9_perform_b139_ok Z hK hE t0 hk32 _ _ _ _ _ hf
  · rw [if_pos c1] at hf
    refine J_iconst Z.1 (v := (-1)) (by decide) dX9_perform_88 ?_
    refine J_istore_n Z.1 (lv2 := [(3, .int (-1)), (0, va_rf (some this)), (4, .int l4), (5, va_rf r95)]) dX9_perform_89 rfl (zL Z (by decide)) rfl ?_
    refine J_goto Z.1 180 dX9_perform_90 (by decide) ?_
    refine J_lv [1, 0, 2] rfl ?_
    exact pX9_perform_b180_ok Z hK hE t0 hk32 _ _ _ hf
def pX9_perform_b32 (E : EC) (g : MT) (this : Nat) (p1 : Nat) (p2 : Nat) (k32 : Int32 → Int32 → CT → Option CT) (l3 : Int32) (l4 : Int32) (h : CT) : Option CT := if 1000000 ≤ l4 then some h else if l3 = (-1) then some h else lt (hR h this 4) fun r3 => (nn r3 fun a3 => (tg g a3 3 (lt (hR h a3 8) fun r5 => (nn r5 fun a5 => (tg g a5 6 (bd (pX7_at g h a5 l3) fun r7 => (lt (hR h this 6) fun r9 => (if r9 = none then pX9_perform_b83 E g this p1 p2 k32 l3 l4 r7 h else lt (hR h this 6) fun r11 => (nn r11 fun a11 => (tg g a11 2 (if l3 < (hI h a11 9) then pX9_perform_b83 E g this p1 p2 k32 l3 l4 r7 h else bd2 (pX9_endRound g h this) fun x16 h14 => (pX9_perform_b180 E g this p1 p2 k32 x16 l4 h14))))))))))))
set_option maxRecDepth 10000 in
set_option maxHeartbeats 4000000 in
theorem pX9_perform_b32_ok {X : Cx} {G : Gx} {dk : Nat} {g : MT} {h0 : CT} {this : Nat} {p1 : Nat} {p2 : Nat} {k32 : Int32 → Int32 → CT → Option CT} (Z : Zx X G cX9_perform RX9 7 dk none none g h0) (hK : 5 ≤ dk) {E : EC} (hE : G.2.2.2 = E) (t0 : gT g this = 8) (hk32 : ∀ (l3 : Int32) (l4 : Int32) (h : CT), k32 l3 l4 h = some h0 → J X g h 32 [(0, va_rf (some this)), (3, .int l3), (4, .int l4)] []) (l3 : Int32) (l4 : Int32) (h : CT) (hf : pX9_perform_b32 E g this p1 p2 k32 l3 l4 h = some h0) : J X g h 32 [(0, va_rf (some this)), (3, .int l3), (4, .int l4)] [] := by
  unfold pX9_perform_b32 at hf
  refine J_iload Z.1 2 dX9_perform_32 rfl ?_
  refine J_ldc Z.1 q_980 dX9_perform_34 ?_
  refine J_icmp_ge Z.1 186 dX9_perform_36 (by decide) (fun c1 => ?_) (fun c1 => ?_)
  · rw [if_pos c1] at hf
    cases hf
    exact J_vret Z.1 Z.2.2.2.2.2 dX9_perform_186
  · rw [if_neg c1] at hf
    refine J_iload_n Z.1 1 dX9_perform_39 rfl rfl ?_
    refine J_iconst Z.1 (v := (-1)) (by decide) dX9_perform_40 ?_
    refine J_icmp_eq Z.1 186 dX9_perform_41 (by decide) (fun c2 => ?_) (fun c2 => ?_)
    · rw [if_pos c2] at hf
      cases hf
      exact J_vret Z.1 Z.2.2.2.2.2 dX9_perform_186
    · rw [if_neg c2] at hf
      refine J_aload_n Z.1 0 dX9_perform_44 rfl rfl ?_
      refine J_get (v := va_rf (hR h this 4)) Z.1 dX9_perform_45 fl_X9_34 t0 rfl ?_
      refine J_tr (fun r3 er3 => ?_)
      replace hf := lt_i hf r3 er3
      replace hf := nn_i hf
      obtain ⟨a3, rfl, hf⟩ := hf
      replace hf := tg_i hf
      obtain ⟨t4, hf⟩ := hf
      refine J_get (v := va_rf (hR h a3 8)) Z.1 dX9_perform_48 fl_X9_56 t4 rfl ?_
      refine J_tr (fun r5 er5 => ?_)
      replace hf := lt_i hf r5 er5
      refine J_iload_n Z.1 1 dX9_perform_51 rfl rfl ?_
      replace hf := nn_i hf
      obtain ⟨a5, rfl, hf⟩ := hf
      replace hf := tg_i hf
      obtain ⟨t6, hf⟩ := hf
      replace hf := bd_i hf
      obtain ⟨r7, q8, hf⟩ := hf
      refine J_callV (ci := 5) (as := [.int l3]) (rest := []) (sy := [va_rf r7]) Z.1 dX9_perform_52 cw_X9_62 (pX7_at_ok G (dk - 1) (by omega) q8) rfl rfl t6 (zG Z) rfl (by decide) (zF Z (by omega)) (zO Z (by omega) (by decide)) (zM _) Z.2.1 Z.2.1 rfl rfl ?_
      refine J_astore Z.1 (lv2 := [(5, va_rf r7), (0, va_rf (some this)), (3, .int l3), (4, .int l4)]) dX9_perform_55 (zL Z (by decide)) rfl ?_
      refine J_aload_n Z.1 1 dX9_perform_57 rfl rfl ?_
      refine J_get (v := va_rf (hR h this 6)) Z.1 dX9_perform_58 fl_X9_47 t0 rfl ?_
      refine J_tr (fun r9 er9 => ?_)
      replace hf := lt_i hf r9 er9
      refine J_ifnull Z.1 83 dX9_perform_61 (by decide) (fun c10 => ?_) (fun c10 => ?_)
      · rw [if_pos c10] at hf
        refine J_lv [1, 2, 3, 0] rfl ?_
        exact pX9_perform_b83_ok Z hK hE t0 hk32 _ _ _ _ hf
      · rw [if_neg c10] at hf
        refine J_iload_n Z.1 2 dX9_perform_64 rfl rfl ?_
        refine J_aload_n Z.1 1 dX9_perform_65 rfl rfl ?_
        refine J_get (v := va_rf (hR h this 6)) Z.1 dX9_perform_66 fl_X9_47 t0 rfl ?_
        refine J_tr (fun r11 er11 => ?_)
        replace hf := lt_i hf r11 er11
        replace hf := nn_i hf
        obtain ⟨a11, rfl, hf⟩ := hf
        replace hf := tg_i hf
        obtain ⟨t12, hf⟩ := hf
        refine J_get (v := .int (hI h a11 9)) Z.1 dX9_perform_69 fl_X9_68 t12 rfl ?_
        refine J_icmp_lt Z.1 83 dX9_perform_72 (by decide) (fun c13 => ?_) (fun c13 => ?_)
        · rw [if_pos c13] at hf
          refine J_lv [1, 2, 3, 0] rfl ?_
          exact pX9_perform_b83_ok Z hK hE t0 hk32 _ _ _ _ hf
        · rw [if_neg c13] at hf
          refine J_aload_n Z.1 1 dX9_perform_75 rfl rfl ?_
          replace hf := bd2_i hf
          obtain ⟨x16, h14, q15, hf⟩ := hf
          refine J_callV (ci := 7) (as := []) (rest := []) (sy := [.int x16]) Z.1 dX9_perform_76 cw_X9_73 (pX9_endRound_ok G (dk - 1) (by omega) q15) rfl rfl t0 (zG Z) rfl (by decide) (zF Z (by omega)) (zO Z (by omega) (by decide)) (zM _) Z.2.1 Z.2.1 rfl rfl ?_
          refine J_istore_n Z.1 (lv2 := [(3, .int x16), (5, va_rf r7), (0, va_rf (some this)), (4, .int l4)]) dX9_perform_79 rfl (zL Z (by decide)) rfl ?_
          refine J_goto Z.1 180 dX9_perform_80 (by decide) ?_
          refine J_lv [2, 0, 3] rfl ?_
          exact pX9_perform_b180_ok Z hK hE t0 hk32 _ _ _ hf
def pX9_perform_l32 (E : EC) (g : MT) (this : Nat) (p1 : Nat) (p2 : Nat) : Nat → Int32 → Int32 → CT → Option CT
  | 0, _, _, _ => none
  | n + 1, l3, l4, h => pX9_perform_b32 E g this p1 p2 (pX9_perform_l32 E g this p1 p2 n) l3 l4 h
theorem pX9_perform_l32_ok {X : Cx} {G : Gx} {dk : Nat} {g : MT} {h0 : CT} {this : Nat} {p1 : Nat} {p2 : Nat} (Z : Zx X G cX9_perform RX9 7 dk none none g h0) (hK : 5 ≤ dk) {E : EC} (hE : G.2.2.2 = E) (t0 : gT g this = 8) : ∀ (n : Nat) (l3 : Int32) (l4 : Int32) (h : CT), pX9_perform_l32 E g this p1 p2 n l3 l4 h = some h0 → J X g h 32 [(0, va_rf (some this)), (3, .int l3), (4, .int l4)] [] := by
  intro n
  induction n with
  | zero => intro l3 l4 h hf; cases hf
  | succ n ih => intro l3 l4 h hf; exact pX9_perform_b32_ok Z hK hE t0 ih l3 l4 h hf
def pX9_perform (E : EC) (g : MT) (h : CT) (this : Nat) (p1 : Nat) (p2 : Nat) : Option CT := tg g this 8 (lt (sR h this 4 (some p1)) fun h1 => (lt (sR h1 this 5 (some p2)) fun h2 => (lt (hR h2 this 5) fun r3 => (nn r3 fun a3 => (tg g a3 9 (bd (pX10_clear g h2 a3) fun h5 => (lt (sR h5 this 6 none) fun h7 => (lt (sI h7 this 9 0) fun h8 => (pX9_perform_l32 E g this p1 p2  FUEL 0 0 h8)))))))))
set_option maxRecDepth 10000 in
set_option maxHeartbeats 4000000 in
theorem pX9_perform_ok (G : Gx) (dk : Nat) (hK : 5 ≤ dk) {g : MT} {E : EC} (hE : G.2.2.2 = E) {h h0 : CT} {this : Nat} {p1 : Nat} {p2 : Nat} (hf : pX9_perform E g h this p1 p2 = some h0) : Ctr G dk yX9_perform cX9_perform 7 none [va_rf (some this), va_rf (some p1), va_rf (some p2)] g h none g h0 := by
  refine Ctr.ofZ (lv := [(0, va_rf (some this)), (1, va_rf (some p1)), (2, va_rf (some p2))]) (by decide +kernel) (by simp [cat_i, cat_l, cat_d, cat_rf]) rfl fun X Z => ?_
  unfold pX9_perform at hf
  replace hf := tg_i hf
  obtain ⟨t0, hf⟩ := hf
  refine J_aload_n Z.1 0 dX9_perform_0 rfl rfl ?_
  refine J_aload_n Z.1 1 dX9_perform_1 rfl rfl ?_
  refine J_putR Z.1 dX9_perform_2 fl_X9_34 (fun q => by cases q) t0 (Or.inl ⟨_, rfl⟩) ?_
  refine J_th (fun h1 eh1 => ?_)
  replace hf := lt_i hf h1 eh1
  refine J_aload_n Z.1 0 dX9_perform_5 rfl rfl ?_
  refine J_aload_n Z.1 2 dX9_perform_6 rfl rfl ?_
  refine J_putR Z.1 dX9_perform_7 fl_X9_38 (fun q => by cases q) t0 (Or.inl ⟨_, rfl⟩) ?_
  refine J_th (fun h2 eh2 => ?_)
  replace hf := lt_i hf h2 eh2
  refine J_aload_n Z.1 0 dX9_perform_10 rfl rfl ?_
  refine J_get (v := va_rf (hR h2 this 5)) Z.1 dX9_perform_11 fl_X9_38 t0 rfl ?_
  refine J_tr (fun r3 er3 => ?_)
  replace hf := lt_i hf r3 er3
  replace hf := nn_i hf
  obtain ⟨a3, rfl, hf⟩ := hf
  replace hf := tg_i hf
  obtain ⟨t4, hf⟩ := hf
  replace hf := bd_i hf
  obtain ⟨h5, q6, hf⟩ := hf
  refine J_callV (ci := 8) (as := []) (rest := []) (sy := []) Z.1 dX9_perform_14 cw_X9_42 (pX10_clear_ok G (dk - 1) (by omega) q6) rfl rfl t4 (zG Z) rfl (by decide) (zF Z (by omega)) (zO Z (by omega) (by decide)) (zM _) Z.2.1 Z.2.1 rfl rfl ?_
  refine J_aload_n Z.1 0 dX9_perform_17 rfl rfl ?_
  refine J_null Z.1 dX9_perform_18 ?_
  refine J_putR Z.1 dX9_perform_19 fl_X9_47 (fun q => by cases q) t0 (Or.inl ⟨_, rfl⟩) ?_
  refine J_th (fun h7 eh7 => ?_)
  replace hf := lt_i hf h7 eh7
  refine J_aload_n Z.1 0 dX9_perform_22 rfl rfl ?_
  refine J_iconst Z.1 (v := 0) (by decide) dX9_perform_23 ?_
  refine J_putI Z.1 dX9_perform_24 fl_X9_51 (fun q => by cases q) t0 rfl rfl (congrArg Value.int (hI_s _ _ _ _)) ?_
  refine J_th (fun h8 eh8 => ?_)
  replace hf := lt_i hf h8 eh8
  refine J_iconst Z.1 (v := 0) (by decide) dX9_perform_27 ?_
  refine J_istore_n Z.1 (lv2 := [(3, .int 0), (0, va_rf (some this)), (1, va_rf (some p1)), (2, va_rf (some p2))]) dX9_perform_28 rfl (zL Z (by decide)) rfl ?_
  refine J_iconst Z.1 (v := 0) (by decide) dX9_perform_29 ?_
  refine J_istore Z.1 (lv2 := [(4, .int 0), (3, .int 0), (0, va_rf (some this)), (1, va_rf (some p1)), (2, va_rf (some p2))]) dX9_perform_30 (zL Z (by decide)) rfl ?_
  refine J_lv [2, 1, 0] rfl ?_
  exact pX9_perform_l32_ok Z hK hE t0  FUEL _ _ _ hf
theorem dX12_run_0 : decode cX12_run 0 = .ok (.aload_n 0, 1) := by decide +kernel
theorem dX12_run_1 : decode cX12_run 1 = .ok (.getfield 30, 3) := by decide +kernel
theorem dX12_run_4 : decode cX12_run 4 = .ok (.getfield 178, 3) := by decide +kernel
theorem dX12_run_7 : decode cX12_run 7 = .ok (.getfield 184, 3) := by decide +kernel
theorem dX12_run_10 : decode cX12_run 10 = .ok (.ifCond .ne 10, 3) := by decide +kernel
theorem dX12_run_13 : decode cX12_run 13 = .ok (.aload_n 0, 1) := by decide +kernel
theorem dX12_run_14 : decode cX12_run 14 = .ok (.bipush 8, 2) := by decide +kernel
theorem dX12_run_16 : decode cX12_run 16 = .ok (.invokevirtual 143, 3) := by decide +kernel
theorem dX12_run_19 : decode cX12_run 19 = .ok (.ireturn, 1) := by decide +kernel
theorem dX12_run_20 : decode cX12_run 20 = .ok (.aload_n 0, 1) := by decide +kernel
theorem dX12_run_21 : decode cX12_run 21 = .ok (.getfield 50, 3) := by decide +kernel
theorem dX12_run_24 : decode cX12_run 24 = .ok (.aload_n 0, 1) := by decide +kernel
theorem dX12_run_25 : decode cX12_run 25 = .ok (.getfield 30, 3) := by decide +kernel
theorem dX12_run_28 : decode cX12_run 28 = .ok (.aload_n 0, 1) := by decide +kernel
theorem dX12_run_29 : decode cX12_run 29 = .ok (.getfield 57, 3) := by decide +kernel
theorem dX12_run_32 : decode cX12_run 32 = .ok (.invokevirtual 281, 3) := by decide +kernel
theorem dX12_run_35 : decode cX12_run 35 = .ok (.aload_n 0, 1) := by decide +kernel
theorem dX12_run_36 : decode cX12_run 36 = .ok (.iconst 1, 1) := by decide +kernel
theorem dX12_run_37 : decode cX12_run 37 = .ok (.putfield 285, 3) := by decide +kernel
theorem dX12_run_40 : decode cX12_run 40 = .ok (.aload_n 0, 1) := by decide +kernel
theorem dX12_run_41 : decode cX12_run 41 = .ok (.iconst 1, 1) := by decide +kernel
theorem dX12_run_42 : decode cX12_run 42 = .ok (.putfield 181, 3) := by decide +kernel
theorem dX12_run_45 : decode cX12_run 45 = .ok (.aload_n 0, 1) := by decide +kernel
theorem dX12_run_46 : decode cX12_run 46 = .ok (.getfield 57, 3) := by decide +kernel
theorem dX12_run_49 : decode cX12_run 49 = .ok (.getfield 288, 3) := by decide +kernel
theorem dX12_run_52 : decode cX12_run 52 = .ok (.ifCond .ne 17, 3) := by decide +kernel
theorem dX12_run_55 : decode cX12_run 55 = .ok (.aload_n 0, 1) := by decide +kernel
theorem dX12_run_56 : decode cX12_run 56 = .ok (.aload_n 0, 1) := by decide +kernel
theorem dX12_run_57 : decode cX12_run 57 = .ok (.getfield 57, 3) := by decide +kernel
theorem dX12_run_60 : decode cX12_run 60 = .ok (.getfield 291, 3) := by decide +kernel
theorem dX12_run_63 : decode cX12_run 63 = .ok (.invokevirtual 105, 3) := by decide +kernel
theorem dX12_run_66 : decode cX12_run 66 = .ok (.goto 9, 3) := by decide +kernel
theorem dX12_run_69 : decode cX12_run 69 = .ok (.aload_n 0, 1) := by decide +kernel
theorem dX12_run_70 : decode cX12_run 70 = .ok (.bipush 12, 2) := by decide +kernel
theorem dX12_run_72 : decode cX12_run 72 = .ok (.invokevirtual 143, 3) := by decide +kernel
theorem dX12_run_75 : decode cX12_run 75 = .ok (.ireturn, 1) := by decide +kernel
def pX12_run (E : EC) (g : MT) (h : CT) (this : Nat) : Option ((Int32) × CT) := tg g this 11 (lt (hR h this 4) fun r1 => (nn r1 fun a1 => (tg g a1 3 (lt (hR h a1 8) fun r3 => (nn r3 fun a3 => (tg g a3 6 (if (hI h a3 1) = 0 then bd2 (pX12_refuse g h this 8) fun x27 h25 => (some (x27, h25)) else lt (hR h this 7) fun r6 => (lt (hR h this 4) fun r7 => (lt (hR h this 8) fun r8 => (nn r6 fun a6 => (tg g a6 8 (nn r7 fun a7 => (nn r8 fun a8 => (bd (pX9_perform E g h a6 a7 a8) fun h10 => (lt (sI h10 this 9 1) fun h12 => (lt (sI h12 this 10 1) fun h13 => (lt (hR h13 this 8) fun r14 => (nn r14 fun a14 => (tg g a14 9 (if (hI h13 a14 3) = 0 then lt (hR h13 this 8) fun r20 => (nn r20 fun a20 => (tg g a20 9 (bd2 (pX12_answer g h13 this (hI h13 a20 2)) fun x24 h22 => (some (x24, h22))))) else bd2 (pX12_refuse g h13 this 12) fun x19 h17 => (some (x19, h17))))))))))))))))))))))
set_option maxRecDepth 10000 in
set_option maxHeartbeats 4000000 in
theorem pX12_run_ok (G : Gx) (dk : Nat) (hK : 6 ≤ dk) {g : MT} {E : EC} (hE : G.2.2.2 = E) {h h0 : CT} {this : Nat} {r0 : Int32} (hf : pX12_run E g h this = some (r0, h0)) : Ctr G dk yX12_run cX12_run 1 (some .int) [va_rf (some this)] g h (some (.int r0)) g h0 := by
  refine Ctr.ofZ (lv := [(0, va_rf (some this))]) (by decide +kernel) (by simp [cat_i, cat_l, cat_d, cat_rf]) rfl fun X Z => ?_
  unfold pX12_run at hf
  replace hf := tg_i hf
  obtain ⟨t0, hf⟩ := hf
  refine J_aload_n Z.1 0 dX12_run_0 rfl rfl ?_
  refine J_get (v := va_rf (hR h this 4)) Z.1 dX12_run_1 fl_X12_30 t0 rfl ?_
  refine J_tr (fun r1 er1 => ?_)
  replace hf := lt_i hf r1 er1
  replace hf := nn_i hf
  obtain ⟨a1, rfl, hf⟩ := hf
  replace hf := tg_i hf
  obtain ⟨t2, hf⟩ := hf
  refine J_get (v := va_rf (hR h a1 8)) Z.1 dX12_run_4 fl_X12_178 t2 rfl ?_
  refine J_tr (fun r3 er3 => ?_)
  replace hf := lt_i hf r3 er3
  replace hf := nn_i hf
  obtain ⟨a3, rfl, hf⟩ := hf
  replace hf := tg_i hf
  obtain ⟨t4, hf⟩ := hf
  refine J_get (v := .int (hI h a3 1)) Z.1 dX12_run_7 fl_X12_184 t4 rfl ?_
  refine J_if_ne Z.1 20 dX12_run_10 (by decide) (fun c5 => ?_) (fun c5 => ?_)
  · rw [if_neg c5] at hf
    refine J_aload_n Z.1 0 dX12_run_20 rfl rfl ?_
    refine J_get (v := va_rf (hR h this 7)) Z.1 dX12_run_21 fl_X12_50 t0 rfl ?_
    refine J_tr (fun r6 er6 => ?_)
    replace hf := lt_i hf r6 er6
    refine J_aload_n Z.1 0 dX12_run_24 rfl rfl ?_
    refine J_get (v := va_rf (hR h this 4)) Z.1 dX12_run_25 fl_X12_30 t0 rfl ?_
    refine J_tr (fun r7 er7 => ?_)
    replace hf := lt_i hf r7 er7
    refine J_aload_n Z.1 0 dX12_run_28 rfl rfl ?_
    refine J_get (v := va_rf (hR h this 8)) Z.1 dX12_run_29 fl_X12_57 t0 rfl ?_
    refine J_tr (fun r8 er8 => ?_)
    replace hf := lt_i hf r8 er8
    replace hf := nn_i hf
    obtain ⟨a6, rfl, hf⟩ := hf
    replace hf := tg_i hf
    obtain ⟨t9, hf⟩ := hf
    replace hf := nn_i hf
    obtain ⟨a7, rfl, hf⟩ := hf
    replace hf := nn_i hf
    obtain ⟨a8, rfl, hf⟩ := hf
    replace hf := bd_i hf
    obtain ⟨h10, q11, hf⟩ := hf
    refine J_callV (ci := 7) (as := [va_rf (some a7), va_rf (some a8)]) (rest := []) (sy := []) Z.1 dX12_run_32 cw_X12_281 (pX9_perform_ok G (dk - 1) (by omega) hE q11) rfl rfl t9 (zG Z) rfl (by decide) (zF Z (by omega)) (zO Z (by omega) (by decide)) (zM _) Z.2.1 Z.2.1 rfl rfl ?_
    refine J_aload_n Z.1 0 dX12_run_35 rfl rfl ?_
    refine J_iconst Z.1 (v := 1) (by decide) dX12_run_36 ?_
    refine J_putI Z.1 dX12_run_37 fl_X12_285 (fun q => by cases q) t0 (z_n (Or.inr rfl)) (z_f (Or.inr rfl)) (congrArg Value.int (hI_s _ _ _ _)) ?_
    refine J_th (fun h12 eh12 => ?_)
    replace hf := lt_i hf h12 eh12
    refine J_aload_n Z.1 0 dX12_run_40 rfl rfl ?_
    refine J_iconst Z.1 (v := 1) (by decide) dX12_run_41 ?_
    refine J_putI Z.1 dX12_run_42 fl_X12_181 (fun q => by cases q) t0 (z_n (Or.inr rfl)) (z_f (Or.inr rfl)) (congrArg Value.int (hI_s _ _ _ _)) ?_
    refine J_th (fun h13 eh13 => ?_)
    replace hf := lt_i hf h13 eh13
    refine J_aload_n Z.1 0 dX12_run_45 rfl rfl ?_
    refine J_get (v := va_rf (hR h13 this 8)) Z.1 dX12_run_46 fl_X12_57 t0 rfl ?_
    refine J_tr (fun r14 er14 => ?_)
    replace hf := lt_i hf r14 er14
    replace hf := nn_i hf
    obtain ⟨a14, rfl, hf⟩ := hf
    replace hf := tg_i hf
    obtain ⟨t15, hf⟩ := hf
    refine J_get (v := .int (hI h13 a14 3)) Z.1 dX12_run_49 fl_X12_288 t15 rfl ?_
    refine J_if_ne Z.1 69 dX12_run_52 (by decide) (fun c16 => ?_) (fun c16 => ?_)
    · rw [if_neg c16] at hf
      refine J_aload_n Z.1 0 dX12_run_69 rfl rfl ?_
      refine J_bipush Z.1 (v := 12) (by decide) dX12_run_70 ?_
      replace hf := bd2_i hf
      obtain ⟨x19, h17, q18, hf⟩ := hf
      refine J_callV (ci := 10) (as := [.int 12]) (rest := []) (sy := [.int x19]) Z.1 dX12_run_72 cw_X12_143 (pX12_refuse_ok G (dk - 1) (by omega) q18) rfl rfl t0 (zG Z) rfl (by decide) (zF Z (by omega)) (zO Z (by omega) (by decide)) (zM _) Z.2.1 Z.2.1 rfl rfl ?_
      cases hf
      exact J_iret Z.1 Z.2.2.2.2.2 dX12_run_75
    · rw [if_pos c16] at hf
      refine J_aload_n Z.1 0 dX12_run_55 rfl rfl ?_
      refine J_aload_n Z.1 0 dX12_run_56 rfl rfl ?_
      refine J_get (v := va_rf (hR h13 this 8)) Z.1 dX12_run_57 fl_X12_57 t0 rfl ?_
      refine J_tr (fun r20 er20 => ?_)
      replace hf := lt_i hf r20 er20
      replace hf := nn_i hf
      obtain ⟨a20, rfl, hf⟩ := hf
      replace hf := tg_i hf
      obtain ⟨t21, hf⟩ := hf
      refine J_get (v := .int (hI h13 a20 2)) Z.1 dX12_run_60 fl_X12_291 t21 rfl ?_
      replace hf := bd2_i hf
      obtain ⟨x24, h22, q23, hf⟩ := hf
      refine J_callV (ci := 10) (as := [.int (hI h13 a20 2)]) (rest := []) (sy := [.int x24]) Z.1 dX12_run_63 cw_X12_105 (pX12_answer_ok G (dk - 1) (by omega) q23) rfl rfl t0 (zG Z) rfl (by decide) (zF Z (by omega)) (zO Z (by omega) (by decide)) (zM _) Z.2.1 Z.2.1 rfl rfl ?_
      refine J_goto Z.1 75 dX12_run_66 (by decide) ?_
      cases hf
      exact J_iret Z.1 Z.2.2.2.2.2 dX12_run_75
  · rw [if_pos c5] at hf
    refine J_aload_n Z.1 0 dX12_run_13 rfl rfl ?_
    refine J_bipush Z.1 (v := 8) (by decide) dX12_run_14 ?_
    replace hf := bd2_i hf
    obtain ⟨x27, h25, q26, hf⟩ := hf
    refine J_callV (ci := 10) (as := [.int 8]) (rest := []) (sy := [.int x27]) Z.1 dX12_run_16 cw_X12_143 (pX12_refuse_ok G (dk - 1) (by omega) q26) rfl rfl t0 (zG Z) rfl (by decide) (zF Z (by omega)) (zO Z (by omega) (by decide)) (zM _) Z.2.1 Z.2.1 rfl rfl ?_
    cases hf
    exact J_iret Z.1 Z.2.2.2.2.2 dX12_run_19
theorem dX12_trialCycles_0 : decode cX12_trialCycles 0 = .ok (.aload_n 0, 1) := by decide +kernel
theorem dX12_trialCycles_1 : decode cX12_trialCycles 1 = .ok (.getfield 61, 3) := by decide +kernel
theorem dX12_trialCycles_4 : decode cX12_trialCycles 4 = .ok (.aload_n 0, 1) := by decide +kernel
theorem dX12_trialCycles_5 : decode cX12_trialCycles 5 = .ok (.getfield 30, 3) := by decide +kernel
theorem dX12_trialCycles_8 : decode cX12_trialCycles 8 = .ok (.invokevirtual 355, 3) := by decide +kernel
theorem dX12_trialCycles_11 : decode cX12_trialCycles 11 = .ok (.iload_n 1, 1) := by decide +kernel
theorem dX12_trialCycles_12 : decode cX12_trialCycles 12 = .ok (.iconst (-1), 1) := by decide +kernel
theorem dX12_trialCycles_13 : decode cX12_trialCycles 13 = .ok (.if_icmp .eq 29, 3) := by decide +kernel
theorem dX12_trialCycles_16 : decode cX12_trialCycles 16 = .ok (.aload_n 0, 1) := by decide +kernel
theorem dX12_trialCycles_17 : decode cX12_trialCycles 17 = .ok (.getfield 67, 3) := by decide +kernel
theorem dX12_trialCycles_20 : decode cX12_trialCycles 20 = .ok (.aload_n 0, 1) := by decide +kernel
theorem dX12_trialCycles_21 : decode cX12_trialCycles 21 = .ok (.getfield 30, 3) := by decide +kernel
theorem dX12_trialCycles_24 : decode cX12_trialCycles 24 = .ok (.getfield 178, 3) := by decide +kernel
theorem dX12_trialCycles_27 : decode cX12_trialCycles 27 = .ok (.iload_n 1, 1) := by decide +kernel
theorem dX12_trialCycles_28 : decode cX12_trialCycles 28 = .ok (.invokevirtual 359, 3) := by decide +kernel
theorem dX12_trialCycles_31 : decode cX12_trialCycles 31 = .ok (.aload_n 0, 1) := by decide +kernel
theorem dX12_trialCycles_32 : decode cX12_trialCycles 32 = .ok (.getfield 61, 3) := by decide +kernel
theorem dX12_trialCycles_35 : decode cX12_trialCycles 35 = .ok (.aload_n 0, 1) := by decide +kernel
theorem dX12_trialCycles_36 : decode cX12_trialCycles 36 = .ok (.getfield 67, 3) := by decide +kernel
theorem dX12_trialCycles_39 : decode cX12_trialCycles 39 = .ok (.putfield 178, 3) := by decide +kernel
theorem dX12_trialCycles_42 : decode cX12_trialCycles 42 = .ok (.aload_n 0, 1) := by decide +kernel
theorem dX12_trialCycles_43 : decode cX12_trialCycles 43 = .ok (.getfield 50, 3) := by decide +kernel
theorem dX12_trialCycles_46 : decode cX12_trialCycles 46 = .ok (.aload_n 0, 1) := by decide +kernel
theorem dX12_trialCycles_47 : decode cX12_trialCycles 47 = .ok (.getfield 61, 3) := by decide +kernel
theorem dX12_trialCycles_50 : decode cX12_trialCycles 50 = .ok (.aload_n 0, 1) := by decide +kernel
theorem dX12_trialCycles_51 : decode cX12_trialCycles 51 = .ok (.getfield 71, 3) := by decide +kernel
theorem dX12_trialCycles_54 : decode cX12_trialCycles 54 = .ok (.invokevirtual 281, 3) := by decide +kernel
theorem dX12_trialCycles_57 : decode cX12_trialCycles 57 = .ok (.aload_n 0, 1) := by decide +kernel
theorem dX12_trialCycles_58 : decode cX12_trialCycles 58 = .ok (.getfield 71, 3) := by decide +kernel
theorem dX12_trialCycles_61 : decode cX12_trialCycles 61 = .ok (.getfield 288, 3) := by decide +kernel
theorem dX12_trialCycles_64 : decode cX12_trialCycles 64 = .ok (.ifCond .ne 13, 3) := by decide +kernel
theorem dX12_trialCycles_67 : decode cX12_trialCycles 67 = .ok (.aload_n 0, 1) := by decide +kernel
theorem dX12_trialCycles_68 : decode cX12_trialCycles 68 = .ok (.getfield 71, 3) := by decide +kernel
theorem dX12_trialCycles_71 : decode cX12_trialCycles 71 = .ok (.getfield 294, 3) := by decide +kernel
theorem dX12_trialCycles_74 : decode cX12_trialCycles 74 = .ok (.goto 4, 3) := by decide +kernel
theorem dX12_trialCycles_77 : decode cX12_trialCycles 77 = .ok (.iconst (-1), 1) := by decide +kernel
theorem dX12_trialCycles_78 : decode cX12_trialCycles 78 = .ok (.ireturn, 1) := by decide +kernel
def pX12_trialCycles_b42 (E : EC) (g : MT) (this : Nat) (p1 : Int32) (h : CT) : Option ((Int32) × CT) := lt (hR h this 7) fun r1 => (lt (hR h this 11) fun r2 => (lt (hR h this 13) fun r3 => (nn r1 fun a1 => (tg g a1 8 (nn r2 fun a2 => (nn r3 fun a3 => (bd (pX9_perform E g h a1 a2 a3) fun h5 => (lt (hR h5 this 13) fun r7 => (nn r7 fun a7 => (tg g a7 9 (if (hI h5 a7 3) = 0 then lt (hR h5 this 13) fun r10 => (nn r10 fun a10 => (tg g a10 9 (some ((hI h5 a10 0), h5)))) else some ((-1), h5))))))))))))
set_option maxRecDepth 10000 in
set_option maxHeartbeats 4000000 in
theorem pX12_trialCycles_b42_ok {X : Cx} {G : Gx} {dk : Nat} {g : MT} {r0 : Int32} {h0 : CT} {this : Nat} {p1 : Int32} (Z : Zx X G cX12_trialCycles RX12 2 dk (some .int) (some (.int r0)) g h0) (hK : 6 ≤ dk) {E : EC} (hE : G.2.2.2 = E) (t0 : gT g this = 11) (h : CT) (hf : pX12_trialCycles_b42 E g this p1 h = some (r0, h0)) : J X g h 42 [(0, va_rf (some this))] [] := by
  unfold pX12_trialCycles_b42 at hf
  refine J_aload_n Z.1 0 dX12_trialCycles_42 rfl rfl ?_
  refine J_get (v := va_rf (hR h this 7)) Z.1 dX12_trialCycles_43 fl_X12_50 t0 rfl ?_
  refine J_tr (fun r1 er1 => ?_)
  replace hf := lt_i hf r1 er1
  refine J_aload_n Z.1 0 dX12_trialCycles_46 rfl rfl ?_
  refine J_get (v := va_rf (hR h this 11)) Z.1 dX12_trialCycles_47 fl_X12_61 t0 rfl ?_
  refine J_tr (fun r2 er2 => ?_)
  replace hf := lt_i hf r2 er2
  refine J_aload_n Z.1 0 dX12_trialCycles_50 rfl rfl ?_
  refine J_get (v := va_rf (hR h this 13)) Z.1 dX12_trialCycles_51 fl_X12_71 t0 rfl ?_
  refine J_tr (fun r3 er3 => ?_)
  replace hf := lt_i hf r3 er3
  replace hf := nn_i hf
  obtain ⟨a1, rfl, hf⟩ := hf
  replace hf := tg_i hf
  obtain ⟨t4, hf⟩ := hf
  replace hf := nn_i hf
  obtain ⟨a2, rfl, hf⟩ := hf
  replace hf := nn_i hf
  obtain ⟨a3, rfl, hf⟩ := hf
  replace hf := bd_i hf
  obtain ⟨h5, q6, hf⟩ := hf
  refine J_callV (ci := 7) (as := [va_rf (some a2), va_rf (some a3)]) (rest := []) (sy := []) Z.1 dX12_trialCycles_54 cw_X12_281 (pX9_perform_ok G (dk - 1) (by omega) hE q6) rfl rfl t4 (zG Z) rfl (by decide) (zF Z (by omega)) (zO Z (by omega) (by decide)) (zM _) Z.2.1 Z.2.1 rfl rfl ?_
  refine J_aload_n Z.1 0 dX12_trialCycles_57 rfl rfl ?_
  refine J_get (v := va_rf (hR h5 this 13)) Z.1 dX12_trialCycles_58 fl_X12_71 t0 rfl ?_
  refine J_tr (fun r7 er7 => ?_)
  replace hf := lt_i hf r7 er7
  replace hf := nn_i hf
  obtain ⟨a7, rfl, hf⟩ := hf
  replace hf := tg_i hf
  obtain ⟨t8, hf⟩ := hf
  refine J_get (v := .int (hI h5 a7 3)) Z.1 dX12_trialCycles_61 fl_X12_288 t8 rfl ?_
  refine J_if_ne Z.1 77 dX12_trialCycles_64 (by decide) (fun c9 => ?_) (fun c9 => ?_)
  · rw [if_neg c9] at hf
    refine J_iconst Z.1 (v := (-1)) (by decide) dX12_trialCycles_77 ?_
    cases hf
    exact J_iret Z.1 Z.2.2.2.2.2 dX12_trialCycles_78
  · rw [if_pos c9] at hf
    refine J_aload_n Z.1 0 dX12_trialCycles_67 rfl rfl ?_
    refine J_get (v := va_rf (hR h5 this 13)) Z.1 dX12_trialCycles_68 fl_X12_71 t0 rfl ?_
    refine J_tr (fun r10 er10 => ?_)
    replace hf := lt_i hf r10 er10
    replace hf := nn_i hf
    obtain ⟨a10, rfl, hf⟩ := hf
    replace hf := tg_i hf
    obtain ⟨t11, hf⟩ := hf
    refine J_get (v := .int (hI h5 a10 0)) Z.1 dX12_trialCycles_71 fl_X12_294 t11 rfl ?_
    refine J_goto Z.1 78 dX12_trialCycles_74 (by decide) ?_
    cases hf
    exact J_iret Z.1 Z.2.2.2.2.2 dX12_trialCycles_78
def pX12_trialCycles (E : EC) (g : MT) (h : CT) (this : Nat) (p1 : Int32) : Option ((Int32) × CT) := tg g this 11 (lt (hR h this 11) fun r1 => (lt (hR h this 4) fun r2 => (nn r1 fun a1 => (tg g a1 3 (nn r2 fun a2 => (bd (pX3_copyFrom g h a1 a2) fun h4 => (if p1 = (-1) then pX12_trialCycles_b42 E g this p1  h4 else lt (hR h4 this 12) fun r7 => (lt (hR h4 this 4) fun r8 => (nn r8 fun a8 => (tg g a8 3 (lt (hR h4 a8 8) fun r10 => (nn r7 fun a7 => (tg g a7 6 (nn r10 fun a10 => (bd (pX7_copySwapped g h4 a7 a10 p1) fun h12 => (lt (hR h12 this 11) fun r14 => (lt (hR h12 this 12) fun r15 => (nn r14 fun a14 => (tg g a14 3 (lt (sR h12 a14 8 r15) fun h17 => (pX12_trialCycles_b42 E g this p1  h17)))))))))))))))))))))
set_option maxRecDepth 10000 in
set_option maxHeartbeats 4000000 in
theorem pX12_trialCycles_ok (G : Gx) (dk : Nat) (hK : 6 ≤ dk) {g : MT} {E : EC} (hE : G.2.2.2 = E) {h h0 : CT} {this : Nat} {p1 : Int32} {r0 : Int32} (hf : pX12_trialCycles E g h this p1 = some (r0, h0)) : Ctr G dk yX12_trialCycles cX12_trialCycles 2 (some .int) [va_rf (some this), .int p1] g h (some (.int r0)) g h0 := by
  refine Ctr.ofZ (lv := [(0, va_rf (some this)), (1, .int p1)]) (by decide +kernel) (by simp [cat_i, cat_l, cat_d, cat_rf]) rfl fun X Z => ?_
  unfold pX12_trialCycles at hf
  replace hf := tg_i hf
  obtain ⟨t0, hf⟩ := hf
  refine J_aload_n Z.1 0 dX12_trialCycles_0 rfl rfl ?_
  refine J_get (v := va_rf (hR h this 11)) Z.1 dX12_trialCycles_1 fl_X12_61 t0 rfl ?_
  refine J_tr (fun r1 er1 => ?_)
  replace hf := lt_i hf r1 er1
  refine J_aload_n Z.1 0 dX12_trialCycles_4 rfl rfl ?_
  refine J_get (v := va_rf (hR h this 4)) Z.1 dX12_trialCycles_5 fl_X12_30 t0 rfl ?_
  refine J_tr (fun r2 er2 => ?_)
  replace hf := lt_i hf r2 er2
  replace hf := nn_i hf
  obtain ⟨a1, rfl, hf⟩ := hf
  replace hf := tg_i hf
  obtain ⟨t3, hf⟩ := hf
  replace hf := nn_i hf
  obtain ⟨a2, rfl, hf⟩ := hf
  replace hf := bd_i hf
  obtain ⟨h4, q5, hf⟩ := hf
  refine J_callV (ci := 2) (as := [va_rf (some a2)]) (rest := []) (sy := []) Z.1 dX12_trialCycles_8 cw_X12_355 (pX3_copyFrom_ok G (dk - 1) (by omega) q5) rfl rfl t3 (zG Z) rfl (by decide) (zF Z (by omega)) (zO Z (by omega) (by decide)) (zM _) Z.2.1 Z.2.1 rfl rfl ?_
  refine J_iload_n Z.1 1 dX12_trialCycles_11 rfl rfl ?_
  refine J_iconst Z.1 (v := (-1)) (by decide) dX12_trialCycles_12 ?_
  refine J_icmp_eq Z.1 42 dX12_trialCycles_13 (by decide) (fun c6 => ?_) (fun c6 => ?_)
  · rw [if_pos c6] at hf
    refine J_lv [0] rfl ?_
    exact pX12_trialCycles_b42_ok Z hK hE t0  _ hf
  · rw [if_neg c6] at hf
    refine J_aload_n Z.1 0 dX12_trialCycles_16 rfl rfl ?_
    refine J_get (v := va_rf (hR h4 this 12)) Z.1 dX12_trialCycles_17 fl_X12_67 t0 rfl ?_
    refine J_tr (fun r7 er7 => ?_)
    replace hf := lt_i hf r7 er7
    refine J_aload_n Z.1 0 dX12_trialCycles_20 rfl rfl ?_
    refine J_get (v := va_rf (hR h4 this 4)) Z.1 dX12_trialCycles_21 fl_X12_30 t0 rfl ?_
    refine J_tr (fun r8 er8 => ?_)
    replace hf := lt_i hf r8 er8
    replace hf := nn_i hf
    obtain ⟨a8, rfl, hf⟩ := hf
    replace hf := tg_i hf
    obtain ⟨t9, hf⟩ := hf
    refine J_get (v := va_rf (hR h4 a8 8)) Z.1 dX12_trialCycles_24 fl_X12_178 t9 rfl ?_
    refine J_tr (fun r10 er10 => ?_)
    replace hf := lt_i hf r10 er10
    refine J_iload_n Z.1 1 dX12_trialCycles_27 rfl rfl ?_
    replace hf := nn_i hf
    obtain ⟨a7, rfl, hf⟩ := hf
    replace hf := tg_i hf
    obtain ⟨t11, hf⟩ := hf
    replace hf := nn_i hf
    obtain ⟨a10, rfl, hf⟩ := hf
    replace hf := bd_i hf
    obtain ⟨h12, q13, hf⟩ := hf
    refine J_callV (ci := 5) (as := [va_rf (some a10), .int p1]) (rest := []) (sy := []) Z.1 dX12_trialCycles_28 cw_X12_359 (pX7_copySwapped_ok G (dk - 1) (by omega) q13) rfl rfl t11 (zG Z) rfl (by decide) (zF Z (by omega)) (zO Z (by omega) (by decide)) (zM _) Z.2.1 Z.2.1 rfl rfl ?_
    refine J_aload_n Z.1 0 dX12_trialCycles_31 rfl rfl ?_
    refine J_get (v := va_rf (hR h12 this 11)) Z.1 dX12_trialCycles_32 fl_X12_61 t0 rfl ?_
    refine J_tr (fun r14 er14 => ?_)
    replace hf := lt_i hf r14 er14
    refine J_aload_n Z.1 0 dX12_trialCycles_35 rfl rfl ?_
    refine J_get (v := va_rf (hR h12 this 12)) Z.1 dX12_trialCycles_36 fl_X12_67 t0 rfl ?_
    refine J_tr (fun r15 er15 => ?_)
    replace hf := lt_i hf r15 er15
    replace hf := nn_i hf
    obtain ⟨a14, rfl, hf⟩ := hf
    replace hf := tg_i hf
    obtain ⟨t16, hf⟩ := hf
    refine J_putR Z.1 dX12_trialCycles_39 fl_X12_178 (fun q => by cases q) t16 (Or.inl ⟨_, rfl⟩) ?_
    refine J_th (fun h17 eh17 => ?_)
    replace hf := lt_i hf h17 eh17
    refine J_lv [0] rfl ?_
    exact pX12_trialCycles_b42_ok Z hK hE t0  _ hf
