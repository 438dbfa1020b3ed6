/-! written by wip/whole/gen.py out of the printed bytecode -/
theorem dX12_init_0 : decode cX12_init 0 = .ok (.aload_n 0, 1) := by decide +kernel
theorem dX12_init_1 : decode cX12_init 1 = .ok (.invokespecial 1, 3) := by decide +kernel
theorem dX12_init_4 : decode cX12_init 4 = .ok (.aload_n 0, 1) := by decide +kernel
theorem dX12_init_5 : decode cX12_init 5 = .ok (.iconst 4, 1) := by decide +kernel
theorem dX12_init_6 : decode cX12_init 6 = .ok (.anewarray 9, 3) := by decide +kernel
theorem dX12_init_9 : decode cX12_init 9 = .ok (.putfield 11, 3) := by decide +kernel
theorem dX12_init_12 : decode cX12_init 12 = .ok (.iconst 0, 1) := by decide +kernel
theorem dX12_init_13 : decode cX12_init 13 = .ok (.istore_n 1, 1) := by decide +kernel
theorem dX12_init_14 : decode cX12_init 14 = .ok (.iload_n 1, 1) := by decide +kernel
theorem dX12_init_15 : decode cX12_init 15 = .ok (.iconst 4, 1) := by decide +kernel
theorem dX12_init_16 : decode cX12_init 16 = .ok (.if_icmp .ge 22, 3) := by decide +kernel
theorem dX12_init_19 : decode cX12_init 19 = .ok (.aload_n 0, 1) := by decide +kernel
theorem dX12_init_20 : decode cX12_init 20 = .ok (.getfield 11, 3) := by decide +kernel
theorem dX12_init_23 : decode cX12_init 23 = .ok (.iload_n 1, 1) := by decide +kernel
theorem dX12_init_24 : decode cX12_init 24 = .ok (.new 9, 3) := by decide +kernel
theorem dX12_init_27 : decode cX12_init 27 = .ok (.dup, 1) := by decide +kernel
theorem dX12_init_28 : decode cX12_init 28 = .ok (.invokespecial 15, 3) := by decide +kernel
theorem dX12_init_31 : decode cX12_init 31 = .ok (.aastore, 1) := by decide +kernel
theorem dX12_init_32 : decode cX12_init 32 = .ok (.iinc 1 1, 3) := by decide +kernel
theorem dX12_init_35 : decode cX12_init 35 = .ok (.goto (-21), 3) := by decide +kernel
theorem dX12_init_38 : decode cX12_init 38 = .ok (.aload_n 0, 1) := by decide +kernel
theorem dX12_init_39 : decode cX12_init 39 = .ok (.sipush 900, 3) := by decide +kernel
theorem dX12_init_42 : decode cX12_init 42 = .ok (.newarray .byte, 2) := by decide +kernel
theorem dX12_init_44 : decode cX12_init 44 = .ok (.putfield 16, 3) := by decide +kernel
theorem dX12_init_47 : decode cX12_init 47 = .ok (.aload_n 0, 1) := by decide +kernel
theorem dX12_init_48 : decode cX12_init 48 = .ok (.new 20, 3) := by decide +kernel
theorem dX12_init_51 : decode cX12_init 51 = .ok (.dup, 1) := by decide +kernel
theorem dX12_init_52 : decode cX12_init 52 = .ok (.invokespecial 22, 3) := by decide +kernel
theorem dX12_init_55 : decode cX12_init 55 = .ok (.putfield 23, 3) := by decide +kernel
theorem dX12_init_58 : decode cX12_init 58 = .ok (.aload_n 0, 1) := by decide +kernel
theorem dX12_init_59 : decode cX12_init 59 = .ok (.new 27, 3) := by decide +kernel
theorem dX12_init_62 : decode cX12_init 62 = .ok (.dup, 1) := by decide +kernel
theorem dX12_init_63 : decode cX12_init 63 = .ok (.invokespecial 29, 3) := by decide +kernel
theorem dX12_init_66 : decode cX12_init 66 = .ok (.putfield 30, 3) := by decide +kernel
theorem dX12_init_69 : decode cX12_init 69 = .ok (.aload_n 0, 1) := by decide +kernel
theorem dX12_init_70 : decode cX12_init 70 = .ok (.iconst 3, 1) := by decide +kernel
theorem dX12_init_71 : decode cX12_init 71 = .ok (.anewarray 27, 3) := by decide +kernel
theorem dX12_init_74 : decode cX12_init 74 = .ok (.putfield 34, 3) := by decide +kernel
theorem dX12_init_77 : decode cX12_init 77 = .ok (.iconst 0, 1) := by decide +kernel
theorem dX12_init_78 : decode cX12_init 78 = .ok (.istore_n 1, 1) := by decide +kernel
theorem dX12_init_79 : decode cX12_init 79 = .ok (.iload_n 1, 1) := by decide +kernel
theorem dX12_init_80 : decode cX12_init 80 = .ok (.iconst 3, 1) := by decide +kernel
theorem dX12_init_81 : decode cX12_init 81 = .ok (.if_icmp .ge 22, 3) := by decide +kernel
theorem dX12_init_84 : decode cX12_init 84 = .ok (.aload_n 0, 1) := by decide +kernel
theorem dX12_init_85 : decode cX12_init 85 = .ok (.getfield 34, 3) := by decide +kernel
theorem dX12_init_88 : decode cX12_init 88 = .ok (.iload_n 1, 1) := by decide +kernel
theorem dX12_init_89 : decode cX12_init 89 = .ok (.new 27, 3) := by decide +kernel
theorem dX12_init_92 : decode cX12_init 92 = .ok (.dup, 1) := by decide +kernel
theorem dX12_init_93 : decode cX12_init 93 = .ok (.invokespecial 29, 3) := by decide +kernel
theorem dX12_init_96 : decode cX12_init 96 = .ok (.aastore, 1) := by decide +kernel
theorem dX12_init_97 : decode cX12_init 97 = .ok (.iinc 1 1, 3) := by decide +kernel
theorem dX12_init_100 : decode cX12_init 100 = .ok (.goto (-21), 3) := by decide +kernel
theorem dX12_init_103 : decode cX12_init 103 = .ok (.aload_n 0, 1) := by decide +kernel
theorem dX12_init_104 : decode cX12_init 104 = .ok (.new 38, 3) := by decide +kernel
theorem dX12_init_107 : decode cX12_init 107 = .ok (.dup, 1) := by decide +kernel
theorem dX12_init_108 : decode cX12_init 108 = .ok (.invokespecial 40, 3) := by decide +kernel
theorem dX12_init_111 : decode cX12_init 111 = .ok (.putfield 41, 3) := by decide +kernel
theorem dX12_init_114 : decode cX12_init 114 = .ok (.aload_n 0, 1) := by decide +kernel
theorem dX12_init_115 : decode cX12_init 115 = .ok (.new 45, 3) := by decide +kernel
theorem dX12_init_118 : decode cX12_init 118 = .ok (.dup, 1) := by decide +kernel
theorem dX12_init_119 : decode cX12_init 119 = .ok (.aload_n 0, 1) := by decide +kernel
theorem dX12_init_120 : decode cX12_init 120 = .ok (.getfield 41, 3) := by decide +kernel
theorem dX12_init_123 : decode cX12_init 123 = .ok (.invokespecial 47, 3) := by decide +kernel
theorem dX12_init_126 : decode cX12_init 126 = .ok (.putfield 50, 3) := by decide +kernel
theorem dX12_init_129 : decode cX12_init 129 = .ok (.aload_n 0, 1) := by decide +kernel
theorem dX12_init_130 : decode cX12_init 130 = .ok (.new 54, 3) := by decide +kernel
theorem dX12_init_133 : decode cX12_init 133 = .ok (.dup, 1) := by decide +kernel
theorem dX12_init_134 : decode cX12_init 134 = .ok (.invokespecial 56, 3) := by decide +kernel
theorem dX12_init_137 : decode cX12_init 137 = .ok (.putfield 57, 3) := by decide +kernel
theorem dX12_init_140 : decode cX12_init 140 = .ok (.aload_n 0, 1) := by decide +kernel
theorem dX12_init_141 : decode cX12_init 141 = .ok (.new 27, 3) := by decide +kernel
theorem dX12_init_144 : decode cX12_init 144 = .ok (.dup, 1) := by decide +kernel
theorem dX12_init_145 : decode cX12_init 145 = .ok (.invokespecial 29, 3) := by decide +kernel
theorem dX12_init_148 : decode cX12_init 148 = .ok (.putfield 61, 3) := by decide +kernel
theorem dX12_init_151 : decode cX12_init 151 = .ok (.aload_n 0, 1) := by decide +kernel
theorem dX12_init_152 : decode cX12_init 152 = .ok (.new 64, 3) := by decide +kernel
theorem dX12_init_155 : decode cX12_init 155 = .ok (.dup, 1) := by decide +kernel
theorem dX12_init_156 : decode cX12_init 156 = .ok (.invokespecial 66, 3) := by decide +kernel
theorem dX12_init_159 : decode cX12_init 159 = .ok (.putfield 67, 3) := by decide +kernel
theorem dX12_init_162 : decode cX12_init 162 = .ok (.aload_n 0, 1) := by decide +kernel
theorem dX12_init_163 : decode cX12_init 163 = .ok (.new 54, 3) := by decide +kernel
theorem dX12_init_166 : decode cX12_init 166 = .ok (.dup, 1) := by decide +kernel
theorem dX12_init_167 : decode cX12_init 167 = .ok (.invokespecial 56, 3) := by decide +kernel
theorem dX12_init_170 : decode cX12_init 170 = .ok (.putfield 71, 3) := by decide +kernel
theorem dX12_init_173 : decode cX12_init 173 = .ok (.aload_n 0, 1) := by decide +kernel
theorem dX12_init_174 : decode cX12_init 174 = .ok (.new 74, 3) := by decide +kernel
theorem dX12_init_177 : decode cX12_init 177 = .ok (.dup, 1) := by decide +kernel
theorem dX12_init_178 : decode cX12_init 178 = .ok (.invokespecial 76, 3) := by decide +kernel
theorem dX12_init_181 : decode cX12_init 181 = .ok (.putfield 77, 3) := by decide +kernel
theorem dX12_init_184 : decode cX12_init 184 = .ok (.aload_n 0, 1) := by decide +kernel
theorem dX12_init_185 : decode cX12_init 185 = .ok (.new 74, 3) := by decide +kernel
theorem dX12_init_188 : decode cX12_init 188 = .ok (.dup, 1) := by decide +kernel
theorem dX12_init_189 : decode cX12_init 189 = .ok (.invokespecial 76, 3) := by decide +kernel
theorem dX12_init_192 : decode cX12_init 192 = .ok (.putfield 81, 3) := by decide +kernel
theorem dX12_init_195 : decode cX12_init 195 = .ok (.aload_n 0, 1) := by decide +kernel
theorem dX12_init_196 : decode cX12_init 196 = .ok (.new 74, 3) := by decide +kernel
theorem dX12_init_199 : decode cX12_init 199 = .ok (.dup, 1) := by decide +kernel
theorem dX12_init_200 : decode cX12_init 200 = .ok (.invokespecial 76, 3) := by decide +kernel
theorem dX12_init_203 : decode cX12_init 203 = .ok (.putfield 84, 3) := by decide +kernel
theorem dX12_init_206 : decode cX12_init 206 = .ok (.aload_n 0, 1) := by decide +kernel
theorem dX12_init_207 : decode cX12_init 207 = .ok (.new 74, 3) := by decide +kernel
theorem dX12_init_210 : decode cX12_init 210 = .ok (.dup, 1) := by decide +kernel
theorem dX12_init_211 : decode cX12_init 211 = .ok (.invokespecial 76, 3) := by decide +kernel
theorem dX12_init_214 : decode cX12_init 214 = .ok (.putfield 87, 3) := by decide +kernel
theorem dX12_init_217 : decode cX12_init 217 = .ok (.return_, 1) := by decide +kernel
def pX12_init_b79 (E : EC) (this : Nat) (k79 : Int32 → MT → CT → Option (MT × CT)) (l1 : Int32) (g : MT) (h : CT) : Option (MT × CT) := if 3 ≤ l1 then gq Prod.fst (gA g 1 5) (lt (gA g 1 5) fun g2 => (lt (hZ h (gN g)) fun h3 => (lt (gN g) fun a4 => (tg g2 a4 1 (bd2 (pX1_init g2 h3 a4) fun g8 h9 => (gq Prod.fst g8 (tg g8 this 11 (lt (sR h9 this 14 (some a4)) fun h14 => (gq Prod.fst (gA g8 8 11) (lt (gA g8 8 11) fun g15 => (lt (hZ h14 (gN g8)) fun h16 => (lt (gN g8) fun a17 => (tg g15 this 11 (lt (hR h16 this 14) fun r21 => (tg g15 a17 8 (nn r21 fun a21 => (bd2 (pX9_init g15 h16 a17 a21) fun g23 h24 => (gq Prod.fst g23 (tg g23 this 11 (lt (sR h24 this 7 (some a17)) fun h29 => (gq Prod.fst (gA g23 9 17) (lt (gA g23 9 17) fun g30 => (lt (hZ h29 (gN g23)) fun h31 => (lt (gN g23) fun a32 => (tg g30 a32 9 (bd2 (pX10_init E g30 h31 a32) fun g36 h37 => (gq Prod.fst g36 (tg g36 this 11 (lt (sR h37 this 8 (some a32)) fun h42 => (gq Prod.fst (gA g36 3 9) (lt (gA g36 3 9) fun g43 => (lt (hZ h42 (gN g36)) fun h44 => (lt (gN g36) fun a45 => (tg g43 a45 3 (bd2 (pX3_init g43 h44 a45) fun g49 h50 => (gq Prod.fst g49 (tg g49 this 11 (lt (sR h50 this 11 (some a45)) fun h55 => (gq Prod.fst (gA g49 6 2) (lt (gA g49 6 2) fun g56 => (lt (hZ h55 (gN g49)) fun h57 => (lt (gN g49) fun a58 => (tg g56 a58 6 (bd2 (pX7_init g56 h57 a58) fun g62 h63 => (gq Prod.fst g62 (tg g62 this 11 (lt (sR h63 this 12 (some a58)) fun h68 => (gq Prod.fst (gA g62 9 17) (lt (gA g62 9 17) fun g69 => (lt (hZ h68 (gN g62)) fun h70 => (lt (gN g62) fun a71 => (tg g69 a71 9 (bd2 (pX10_init E g69 h70 a71) fun g75 h76 => (gq Prod.fst g75 (tg g75 this 11 (lt (sR h76 this 13 (some a71)) fun h81 => (gq Prod.fst (gA g75 4 2) (lt (gA g75 4 2) fun g82 => (lt (hZ h81 (gN g75)) fun h83 => (lt (gN g75) fun a84 => (tg g82 a84 4 (bd2 (pX4_init g82 h83 a84) fun g88 h89 => (gq Prod.fst g88 (tg g88 this 11 (lt (sR h89 this 15 (some a84)) fun h94 => (gq Prod.fst (gA g88 4 2) (lt (gA g88 4 2) fun g95 => (lt (hZ h94 (gN g88)) fun h96 => (lt (gN g88) fun a97 => (tg g95 a97 4 (bd2 (pX4_init g95 h96 a97) fun g101 h102 => (gq Prod.fst g101 (tg g101 this 11 (lt (sR h102 this 16 (some a97)) fun h107 => (gq Prod.fst (gA g101 4 2) (lt (gA g101 4 2) fun g108 => (lt (hZ h107 (gN g101)) fun h109 => (lt (gN g101) fun a110 => (tg g108 a110 4 (bd2 (pX4_init g108 h109 a110) fun g114 h115 => (gq Prod.fst g114 (tg g114 this 11 (lt (sR h115 this 17 (some a110)) fun h120 => (gq Prod.fst (gA g114 4 2) (lt (gA g114 4 2) fun g121 => (lt (hZ h120 (gN g114)) fun h122 => (lt (gN g114) fun a123 => (tg g121 a123 4 (bd2 (pX4_init g121 h122 a123) fun g127 h128 => (gq Prod.fst g127 (tg g127 this 11 (lt (sR h128 this 18 (some a123)) fun h133 => (some (g127, h133)))))))))))))))))))))))))))))))))))))))))))))))))))))))))))))))))))))))))))))))))))))))))))))) else tg g this 11 (lt (hR h this 5) fun r135 => (gq Prod.fst (gA g 3 9) (lt (gA g 3 9) fun g136 => (lt (hZ h (gN g)) fun h137 => (lt (gN g) fun a138 => (tg g136 a138 3 (bd2 (pX3_init g136 h137 a138) fun g142 h143 => (gq Prod.fst g142 (nn r135 fun a135 => (tg g142 a135 26 (ix (gL g142 a135) l1 (tg g142 a138 3 (lt (sR h143 a135 (Int32.toNatClampNeg l1) (some a138)) fun h150 => (lt (l1 + 1) fun x151 => (k79 x151 g142 h150)))))))))))))))
set_option maxRecDepth 10000 in
set_option maxHeartbeats 4000000 in
theorem pX12_init_b79_ok {X : Cx} {G : Gx} {dk : Nat} {g0 : MT} {h0 : CT} {this : Nat} {k79 : Int32 → MT → CT → Option (MT × CT)} (Z : Zy X G cX12_init RX12 2 dk none none "<init>" g0 h0) (hK : 3 ≤ dk) {E : EC} (hE : G.2.2.2 = E) (hk79 : ∀ (l1 : Int32) (g : MT) (h : CT), RM X g → k79 l1 g h = some (g0, h0) → J X g h 79 [(0, va_rf (some this)), (1, .int l1)] []) (l1 : Int32) (g : MT) (h : CT) (M : RM X g) (hf : pX12_init_b79 E this k79 l1 g h = some (g0, h0)) : J X g h 79 [(0, va_rf (some this)), (1, .int l1)] [] := by
  unfold pX12_init_b79 at hf
  refine J_iload_n Z.1 1 dX12_init_79 rfl rfl ?_
  refine J_iconst Z.1 (v := 3) (by decide) dX12_init_80 ?_
  refine J_icmp_ge Z.1 103 dX12_init_81 (by decide) (fun c1 => ?_) (fun c1 => ?_)
  · rw [if_pos c1] at hf
    refine J_aload_n Z.1 0 dX12_init_103 rfl rfl ?_
    replace hf := gq_i hf
    obtain ⟨n5, hf⟩ := hf
    have M6 := rmA Z M n5
    refine J_new (ci := 0) (r := (RX1, TX1, 5)) Z.1 dX12_init_104 rfl q_328 q_329 q_144 M M6 ?_
    refine J_tg (fun g2 eg2 => ?_)
    rw [← eg2] at M6
    replace hf := lt_i hf g2 eg2
    refine J_th (fun h3 eh3 => ?_)
    replace hf := lt_i hf h3 eh3
    refine J_ta (fun a4 ea4 => ?_)
    replace hf := lt_i hf a4 ea4
    refine J_dup Z.1 dX12_init_107 rfl ?_
    replace hf := tg_i hf
    obtain ⟨t7, hf⟩ := hf
    replace hf := bd2_i hf
    obtain ⟨g8, h9, q10, hf⟩ := hf
    replace hf := gq_i hf
    obtain ⟨n11, hf⟩ := hf
    have M12o := pX1_init_mono q10
    have M12 := rmC Z M6 M12o n11
    refine J_callI (as := []) (rest := [va_rf (some a4), va_rf (some this)]) (sy := [va_rf (some a4), va_rf (some this)]) Z.1 dX12_init_108 cw_X12_40 (pX1_init_ok G (dk - 1) (by omega) q10) (yG Z) rfl (by simp [cat_i, cat_l, cat_d, cat_rf]) (yF Z (by omega)) (yO Z (by omega) (by decide)) M12o M6 M12 rfl rfl ?_
    replace hf := tg_i hf
    obtain ⟨t13, hf⟩ := hf
    refine J_putR Z.1 dX12_init_111 fl_X12_41 (fun _ => ⟨Z.2.2.2.2.2.2.2, _, rfl, rfl⟩) t13 (Or.inl ⟨_, rfl⟩) ?_
    refine J_th (fun h14 eh14 => ?_)
    replace hf := lt_i hf h14 eh14
    refine J_aload_n Z.1 0 dX12_init_114 rfl rfl ?_
    replace hf := gq_i hf
    obtain ⟨n18, hf⟩ := hf
    have M19 := rmA Z M12 n18
    refine J_new (ci := 7) (r := (RX9, TX9, 11)) Z.1 dX12_init_115 rfl q_353 q_354 q_145 M12 M19 ?_
    refine J_tg (fun g15 eg15 => ?_)
    rw [← eg15] at M19
    replace hf := lt_i hf g15 eg15
    refine J_th (fun h16 eh16 => ?_)
    replace hf := lt_i hf h16 eh16
    refine J_ta (fun a17 ea17 => ?_)
    replace hf := lt_i hf a17 ea17
    refine J_dup Z.1 dX12_init_118 rfl ?_
    refine J_aload_n Z.1 0 dX12_init_119 rfl rfl ?_
    replace hf := tg_i hf
    obtain ⟨t20, hf⟩ := hf
    refine J_get (v := va_rf (hR h16 this 14)) Z.1 dX12_init_120 fl_X12_41 t20 rfl ?_
    refine J_tr (fun r21 er21 => ?_)
    replace hf := lt_i hf r21 er21
    replace hf := tg_i hf
    obtain ⟨t22, hf⟩ := hf
    replace hf := nn_i hf
    obtain ⟨a21, rfl, hf⟩ := hf
    replace hf := bd2_i hf
    obtain ⟨g23, h24, q25, hf⟩ := hf
    replace hf := gq_i hf
    obtain ⟨n26, hf⟩ := hf
    have M27o := pX9_init_mono q25
    have M27 := rmC Z M19 M27o n26
    refine J_callI (as := [va_rf (some a21)]) (rest := [va_rf (some a17), va_rf (some this)]) (sy := [va_rf (some a17), va_rf (some this)]) Z.1 dX12_init_123 cw_X12_47 (pX9_init_ok G (dk - 1) (by omega) q25) (yG Z) rfl (by simp [cat_i, cat_l, cat_d, cat_rf]) (yF Z (by omega)) (yO Z (by omega) (by decide)) M27o M19 M27 rfl rfl ?_
    replace hf := tg_i hf
    obtain ⟨t28, hf⟩ := hf
    refine J_putR Z.1 dX12_init_126 fl_X12_50 (fun _ => ⟨Z.2.2.2.2.2.2.2, _, rfl, rfl⟩) t28 (Or.inl ⟨_, rfl⟩) ?_
    refine J_th (fun h29 eh29 => ?_)
    replace hf := lt_i hf h29 eh29
    refine J_aload_n Z.1 0 dX12_init_129 rfl rfl ?_
    replace hf := gq_i hf
    obtain ⟨n33, hf⟩ := hf
    have M34 := rmA Z M27 n33
    refine J_new (ci := 8) (r := (RX10, TX10, 17)) Z.1 dX12_init_130 rfl q_413 q_414 q_147 M27 M34 ?_
    refine J_tg (fun g30 eg30 => ?_)
    rw [← eg30] at M34
    replace hf := lt_i hf g30 eg30
    refine J_th (fun h31 eh31 => ?_)
    replace hf := lt_i hf h31 eh31
    refine J_ta (fun a32 ea32 => ?_)
    replace hf := lt_i hf a32 ea32
    refine J_dup Z.1 dX12_init_133 rfl ?_
    replace hf := tg_i hf
    obtain ⟨t35, hf⟩ := hf
    replace hf := bd2_i hf
    obtain ⟨g36, h37, q38, hf⟩ := hf
    replace hf := gq_i hf
    obtain ⟨n39, hf⟩ := hf
    have M40o := pX10_init_mono q38
    have M40 := rmC Z M34 M40o n39
    refine J_callI (as := []) (rest := [va_rf (some a32), va_rf (some this)]) (sy := [va_rf (some a32), va_rf (some this)]) Z.1 dX12_init_134 cw_X12_56 (pX10_init_ok G (dk - 1) (by omega) hE q38) (yG Z) rfl (by simp [cat_i, cat_l, cat_d, cat_rf]) (yF Z (by omega)) (yO Z (by omega) (by decide)) M40o M34 M40 rfl rfl ?_
    replace hf := tg_i hf
    obtain ⟨t41, hf⟩ := hf
    refine J_putR Z.1 dX12_init_137 fl_X12_57 (fun _ => ⟨Z.2.2.2.2.2.2.2, _, rfl, rfl⟩) t41 (Or.inl ⟨_, rfl⟩) ?_
    refine J_th (fun h42 eh42 => ?_)
    replace hf := lt_i hf h42 eh42
    refine J_aload_n Z.1 0 dX12_init_140 rfl rfl ?_
    replace hf := gq_i hf
    obtain ⟨n46, hf⟩ := hf
    have M47 := rmA Z M40 n46
    refine J_new (ci := 2) (r := (RX3, TX3, 9)) Z.1 dX12_init_141 rfl q_242 q_243 q_140 M40 M47 ?_
    refine J_tg (fun g43 eg43 => ?_)
    rw [← eg43] at M47
    replace hf := lt_i hf g43 eg43
    refine J_th (fun h44 eh44 => ?_)
    replace hf := lt_i hf h44 eh44
    refine J_ta (fun a45 ea45 => ?_)
    replace hf := lt_i hf a45 ea45
    refine J_dup Z.1 dX12_init_144 rfl ?_
    replace hf := tg_i hf
    obtain ⟨t48, hf⟩ := hf
    replace hf := bd2_i hf
    obtain ⟨g49, h50, q51, hf⟩ := hf
    replace hf := gq_i hf
    obtain ⟨n52, hf⟩ := hf
    have M53o := pX3_init_mono q51
    have M53 := rmC Z M47 M53o n52
    refine J_callI (as := []) (rest := [va_rf (some a45), va_rf (some this)]) (sy := [va_rf (some a45), va_rf (some this)]) Z.1 dX12_init_145 cw_X12_29 (pX3_init_ok G (dk - 1) (by omega) q51) (yG Z) rfl (by simp [cat_i, cat_l, cat_d, cat_rf]) (yF Z (by omega)) (yO Z (by omega) (by decide)) M53o M47 M53 rfl rfl ?_
    replace hf := tg_i hf
    obtain ⟨t54, hf⟩ := hf
    refine J_putR Z.1 dX12_init_148 fl_X12_61 (fun _ => ⟨Z.2.2.2.2.2.2.2, _, rfl, rfl⟩) t54 (Or.inl ⟨_, rfl⟩) ?_
    refine J_th (fun h55 eh55 => ?_)
    replace hf := lt_i hf h55 eh55
    refine J_aload_n Z.1 0 dX12_init_151 rfl rfl ?_
    replace hf := gq_i hf
    obtain ⟨n59, hf⟩ := hf
    have M60 := rmA Z M53 n59
    refine J_new (ci := 5) (r := (RX7, TX7, 2)) Z.1 dX12_init_152 rfl q_486 q_268 q_143 M53 M60 ?_
    refine J_tg (fun g56 eg56 => ?_)
    rw [← eg56] at M60
    replace hf := lt_i hf g56 eg56
    refine J_th (fun h57 eh57 => ?_)
    replace hf := lt_i hf h57 eh57
    refine J_ta (fun a58 ea58 => ?_)
    replace hf := lt_i hf a58 ea58
    refine J_dup Z.1 dX12_init_155 rfl ?_
    replace hf := tg_i hf
    obtain ⟨t61, hf⟩ := hf
    replace hf := bd2_i hf
    obtain ⟨g62, h63, q64, hf⟩ := hf
    replace hf := gq_i hf
    obtain ⟨n65, hf⟩ := hf
    have M66o := pX7_init_mono q64
    have M66 := rmC Z M60 M66o n65
    refine J_callI (as := []) (rest := [va_rf (some a58), va_rf (some this)]) (sy := [va_rf (some a58), va_rf (some this)]) Z.1 dX12_init_156 cw_X12_66 (pX7_init_ok G (dk - 1) (by omega) q64) (yG Z) rfl (by simp [cat_i, cat_l, cat_d, cat_rf]) (yF Z (by omega)) (yO Z (by omega) (by decide)) M66o M60 M66 rfl rfl ?_
    replace hf := tg_i hf
    obtain ⟨t67, hf⟩ := hf
    refine J_putR Z.1 dX12_init_159 fl_X12_67 (fun _ => ⟨Z.2.2.2.2.2.2.2, _, rfl, rfl⟩) t67 (Or.inl ⟨_, rfl⟩) ?_
    refine J_th (fun h68 eh68 => ?_)
    replace hf := lt_i hf h68 eh68
    refine J_aload_n Z.1 0 dX12_init_162 rfl rfl ?_
    replace hf := gq_i hf
    obtain ⟨n72, hf⟩ := hf
    have M73 := rmA Z M66 n72
    refine J_new (ci := 8) (r := (RX10, TX10, 17)) Z.1 dX12_init_163 rfl q_413 q_414 q_147 M66 M73 ?_
    refine J_tg (fun g69 eg69 => ?_)
    rw [← eg69] at M73
    replace hf := lt_i hf g69 eg69
    refine J_th (fun h70 eh70 => ?_)
    replace hf := lt_i hf h70 eh70
    refine J_ta (fun a71 ea71 => ?_)
    replace hf := lt_i hf a71 ea71
    refine J_dup Z.1 dX12_init_166 rfl ?_
    replace hf := tg_i hf
    obtain ⟨t74, hf⟩ := hf
    replace hf := bd2_i hf
    obtain ⟨g75, h76, q77, hf⟩ := hf
    replace hf := gq_i hf
    obtain ⟨n78, hf⟩ := hf
    have M79o := pX10_init_mono q77
    have M79 := rmC Z M73 M79o n78
    refine J_callI (as := []) (rest := [va_rf (some a71), va_rf (some this)]) (sy := [va_rf (some a71), va_rf (some this)]) Z.1 dX12_init_167 cw_X12_56 (pX10_init_ok G (dk - 1) (by omega) hE q77) (yG Z) rfl (by simp [cat_i, cat_l, cat_d, cat_rf]) (yF Z (by omega)) (yO Z (by omega) (by decide)) M79o M73 M79 rfl rfl ?_
    replace hf := tg_i hf
    obtain ⟨t80, hf⟩ := hf
    refine J_putR Z.1 dX12_init_170 fl_X12_71 (fun _ => ⟨Z.2.2.2.2.2.2.2, _, rfl, rfl⟩) t80 (Or.inl ⟨_, rfl⟩) ?_
    refine J_th (fun h81 eh81 => ?_)
    replace hf := lt_i hf h81 eh81
    refine J_aload_n Z.1 0 dX12_init_173 rfl rfl ?_
    replace hf := gq_i hf
    obtain ⟨n85, hf⟩ := hf
    have M86 := rmA Z M79 n85
    refine J_new (ci := 3) (r := (RX4, TX4, 2)) Z.1 dX12_init_174 rfl q_488 q_362 q_146 M79 M86 ?_
    refine J_tg (fun g82 eg82 => ?_)
    rw [← eg82] at M86
    replace hf := lt_i hf g82 eg82
    refine J_th (fun h83 eh83 => ?_)
    replace hf := lt_i hf h83 eh83
    refine J_ta (fun a84 ea84 => ?_)
    replace hf := lt_i hf a84 ea84
    refine J_dup Z.1 dX12_init_177 rfl ?_
    replace hf := tg_i hf
    obtain ⟨t87, hf⟩ := hf
    replace hf := bd2_i hf
    obtain ⟨g88, h89, q90, hf⟩ := hf
    replace hf := gq_i hf
    obtain ⟨n91, hf⟩ := hf
    have M92o := pX4_init_mono q90
    have M92 := rmC Z M86 M92o n91
    refine J_callIN (as := []) (rest := [va_rf (some a84), va_rf (some this)]) (sy := [va_rf (some a84), va_rf (some this)]) Z.1 dX12_init_178 (kn5 Z.1) q_146 q_365 ⟨by decide +kernel, by decide +kernel, by decide +kernel⟩ q_364 rfl (pX4_init_ok G (dk - 1) (by omega) q90) (yG Z) rfl (by simp [cat_i, cat_l, cat_d, cat_rf]) (yF Z (by omega)) (yO Z (by omega) (by decide)) M92o M86 M92 rfl rfl ?_
    replace hf := tg_i hf
    obtain ⟨t93, hf⟩ := hf
    refine J_putR Z.1 dX12_init_181 fl_X12_77 (fun _ => ⟨Z.2.2.2.2.2.2.2, _, rfl, rfl⟩) t93 (Or.inl ⟨_, rfl⟩) ?_
    refine J_th (fun h94 eh94 => ?_)
    replace hf := lt_i hf h94 eh94
    refine J_aload_n Z.1 0 dX12_init_184 rfl rfl ?_
    replace hf := gq_i hf
    obtain ⟨n98, hf⟩ := hf
    have M99 := rmA Z M92 n98
    refine J_new (ci := 3) (r := (RX4, TX4, 2)) Z.1 dX12_init_185 rfl q_488 q_362 q_146 M92 M99 ?_
    refine J_tg (fun g95 eg95 => ?_)
    rw [← eg95] at M99
    replace hf := lt_i hf g95 eg95
    refine J_th (fun h96 eh96 => ?_)
    replace hf := lt_i hf h96 eh96
    refine J_ta (fun a97 ea97 => ?_)
    replace hf := lt_i hf a97 ea97
    refine J_dup Z.1 dX12_init_188 rfl ?_
    replace hf := tg_i hf
    obtain ⟨t100, hf⟩ := hf
    replace hf := bd2_i hf
    obtain ⟨g101, h102, q103, hf⟩ := hf
    replace hf := gq_i hf
    obtain ⟨n104, hf⟩ := hf
    have M105o := pX4_init_mono q103
    have M105 := rmC Z M99 M105o n104
    refine J_callIN (as := []) (rest := [va_rf (some a97), va_rf (some this)]) (sy := [va_rf (some a97), va_rf (some this)]) Z.1 dX12_init_189 (kn5 Z.1) q_146 q_365 ⟨by decide +kernel, by decide +kernel, by decide +kernel⟩ q_364 rfl (pX4_init_ok G (dk - 1) (by omega) q103) (yG Z) rfl (by simp [cat_i, cat_l, cat_d, cat_rf]) (yF Z (by omega)) (yO Z (by omega) (by decide)) M105o M99 M105 rfl rfl ?_
    replace hf := tg_i hf
    obtain ⟨t106, hf⟩ := hf
    refine J_putR Z.1 dX12_init_192 fl_X12_81 (fun _ => ⟨Z.2.2.2.2.2.2.2, _, rfl, rfl⟩) t106 (Or.inl ⟨_, rfl⟩) ?_
    refine J_th (fun h107 eh107 => ?_)
    replace hf := lt_i hf h107 eh107
    refine J_aload_n Z.1 0 dX12_init_195 rfl rfl ?_
    replace hf := gq_i hf
    obtain ⟨n111, hf⟩ := hf
    have M112 := rmA Z M105 n111
    refine J_new (ci := 3) (r := (RX4, TX4, 2)) Z.1 dX12_init_196 rfl q_488 q_362 q_146 M105 M112 ?_
    refine J_tg (fun g108 eg108 => ?_)
    rw [← eg108] at M112
    replace hf := lt_i hf g108 eg108
    refine J_th (fun h109 eh109 => ?_)
    replace hf := lt_i hf h109 eh109
    refine J_ta (fun a110 ea110 => ?_)
    replace hf := lt_i hf a110 ea110
    refine J_dup Z.1 dX12_init_199 rfl ?_
    replace hf := tg_i hf
    obtain ⟨t113, hf⟩ := hf
    replace hf := bd2_i hf
    obtain ⟨g114, h115, q116, hf⟩ := hf
    replace hf := gq_i hf
    obtain ⟨n117, hf⟩ := hf
    have M118o := pX4_init_mono q116
    have M118 := rmC Z M112 M118o n117
    refine J_callIN (as := []) (rest := [va_rf (some a110), va_rf (some this)]) (sy := [va_rf (some a110), va_rf (some this)]) Z.1 dX12_init_200 (kn5 Z.1) q_146 q_365 ⟨by decide +kernel, by decide +kernel, by decide +kernel⟩ q_364 rfl (pX4_init_ok G (dk - 1) (by omega) q116) (yG Z) rfl (by simp [cat_i, cat_l, cat_d, cat_rf]) (yF Z (by omega)) (yO Z (by omega) (by decide)) M118o M112 M118 rfl rfl ?_
    replace hf := tg_i hf
    obtain ⟨t119, hf⟩ := hf
    refine J_putR Z.1 dX12_init_203 fl_X12_84 (fun _ => ⟨Z.2.2.2.2.2.2.2, _, rfl, rfl⟩) t119 (Or.inl ⟨_, rfl⟩) ?_
    refine J_th (fun h120 eh120 => ?_)
    replace hf := lt_i hf h120 eh120
    refine J_aload_n Z.1 0 dX12_init_206 rfl rfl ?_
    replace hf := gq_i hf
    obtain ⟨n124, hf⟩ := hf
    have M125 := rmA Z M118 n124
    refine J_new (ci := 3) (r := (RX4, TX4, 2)) Z.1 dX12_init_207 rfl q_488 q_362 q_146 M118 M125 ?_
    refine J_tg (fun g121 eg121 => ?_)
    rw [← eg121] at M125
    replace hf := lt_i hf g121 eg121
    refine J_th (fun h122 eh122 => ?_)
    replace hf := lt_i hf h122 eh122
    refine J_ta (fun a123 ea123 => ?_)
    replace hf := lt_i hf a123 ea123
    refine J_dup Z.1 dX12_init_210 rfl ?_
    replace hf := tg_i hf
    obtain ⟨t126, hf⟩ := hf
    replace hf := bd2_i hf
    obtain ⟨g127, h128, q129, hf⟩ := hf
    replace hf := gq_i hf
    obtain ⟨n130, hf⟩ := hf
    have M131o := pX4_init_mono q129
    have M131 := rmC Z M125 M131o n130
    refine J_callIN (as := []) (rest := [va_rf (some a123), va_rf (some this)]) (sy := [va_rf (some a123), va_rf (some this)]) Z.1 dX12_init_211 (kn5 Z.1) q_146 q_365 ⟨by decide +kernel, by decide +kernel, by decide +kernel⟩ q_364 rfl (pX4_init_ok G (dk - 1) (by omega) q129) (yG Z) rfl (by simp [cat_i, cat_l, cat_d, cat_rf]) (yF Z (by omega)) (yO Z (by omega) (by decide)) M131o M125 M131 rfl rfl ?_
    replace hf := tg_i hf
    obtain ⟨t132, hf⟩ := hf
    refine J_putR Z.1 dX12_init_214 fl_X12_87 (fun _ => ⟨Z.2.2.2.2.2.2.2, _, rfl, rfl⟩) t132 (Or.inl ⟨_, rfl⟩) ?_
    refine J_th (fun h133 eh133 => ?_)
    replace hf := lt_i hf h133 eh133
    cases hf
    exact J_vret Z.1 Z.2.2.2.2.1 dX12_init_217
  · rw [if_neg c1] at hf
    refine J_aload_n Z.1 0 dX12_init_84 rfl rfl ?_
    replace hf := tg_i hf
    obtain ⟨t134, hf⟩ := hf
    refine J_get (v := va_rf (hR h this 5)) Z.1 dX12_init_85 fl_X12_34 t134 rfl ?_
    refine J_tr (fun r135 er135 => ?_)
    replace hf := lt_i hf r135 er135
    refine J_iload_n Z.1 1 dX12_init_88 rfl rfl ?_
    replace hf := gq_i hf
    obtain ⟨n139, hf⟩ := hf
    have M140 := rmA Z M n139
    refine J_new (ci := 2) (r := (RX3, TX3, 9)) Z.1 dX12_init_89 rfl q_242 q_243 q_140 M M140 ?_
    refine J_tg (fun g136 eg136 => ?_)
    rw [← eg136] at M140
    replace hf := lt_i hf g136 eg136
    refine J_th (fun h137 eh137 => ?_)
    replace hf := lt_i hf h137 eh137
    refine J_ta (fun a138 ea138 => ?_)
    replace hf := lt_i hf a138 ea138
    refine J_dup Z.1 dX12_init_92 rfl ?_
    replace hf := tg_i hf
    obtain ⟨t141, hf⟩ := hf
    replace hf := bd2_i hf
    obtain ⟨g142, h143, q144, hf⟩ := hf
    replace hf := gq_i hf
    obtain ⟨n145, hf⟩ := hf
    have M146o := pX3_init_mono q144
    have M146 := rmC Z M140 M146o n145
    refine J_callI (as := []) (rest := [va_rf (some a138), .int l1, va_rf r135]) (sy := [va_rf (some a138), .int l1, va_rf r135]) Z.1 dX12_init_93 cw_X12_29 (pX3_init_ok G (dk - 1) (by omega) q144) (yG Z) rfl (by simp [cat_i, cat_l, cat_d, cat_rf]) (yF Z (by omega)) (yO Z (by omega) (by decide)) M146o M140 M146 rfl rfl ?_
    replace hf := nn_i hf
    obtain ⟨a135, rfl, hf⟩ := hf
    replace hf := tg_i hf
    obtain ⟨t147, hf⟩ := hf
    replace hf := ix_i hf
    obtain ⟨i148, hf⟩ := hf
    replace hf := tg_i hf
    obtain ⟨t149, hf⟩ := hf
    refine J_aastore (t := 6) (ci := 2) (r := (RX3, TX3, 9)) Z.1 dX12_init_96 t147 rfl rfl t149 i148 ?_
    refine J_th (fun h150 eh150 => ?_)
    replace hf := lt_i hf h150 eh150
    refine J_iinc Z.1 (v := 1) (lv2 := [(1, .int (l1 + 1)), (0, va_rf (some this))]) 1 dX12_init_97 rfl (by decide) (yL Z (by decide)) rfl ?_
    obtain ⟨x151, ex151⟩ : ∃ z, z = (l1 + 1) := ⟨_, rfl⟩
    replace hf := lt_i hf x151 ex151
    rw [← ex151]
    refine J_goto Z.1 79 dX12_init_100 (by decide) ?_
    refine J_lv [1, 0] rfl ?_
    exact hk79 _ _ _ M146 hf
def pX12_init_l79 (E : EC) (this : Nat) : Nat → Int32 → MT → CT → Option (MT × CT)
  | 0, _, _, _ => none
  | n + 1, l1, g, h => pX12_init_b79 E this (pX12_init_l79 E this n) l1 g h
theorem pX12_init_l79_ok {X : Cx} {G : Gx} {dk : Nat} {g0 : MT} {h0 : CT} {this : Nat} (Z : Zy X G cX12_init RX12 2 dk none none "<init>" g0 h0) (hK : 3 ≤ dk) {E : EC} (hE : G.2.2.2 = E) : ∀ (n : Nat) (l1 : Int32) (g : MT) (h : CT), RM X g → pX12_init_l79 E this n l1 g h = some (g0, h0) → J X g h 79 [(0, va_rf (some this)), (1, .int l1)] [] := by
  intro n
  induction n with
  | zero => intro l1 g h M hf; cases hf
  | succ n ih => intro l1 g h M hf; exact pX12_init_b79_ok Z hK hE ih l1 g h M hf
def pX12_init_b14 (E : EC) (this : Nat) (k14 : Int32 → MT → CT → Option (MT × CT)) (l1 : Int32) (g : MT) (h : CT) : Option (MT × CT) := if 4 ≤ l1 then gq Prod.fst (gA g 23 900) (lt (gA g 23 900) fun g2 => (lt (hZ h (gN g)) fun h3 => (lt (gN g) fun a4 => (tg g2 this 11 (lt (sR h3 this 1 (some a4)) fun h8 => (gq Prod.fst (gA g2 5 12) (lt (gA g2 5 12) fun g9 => (lt (hZ h8 (gN g2)) fun h10 => (lt (gN g2) fun a11 => (tg g9 a11 5 (bd2 (pX6_init E g9 h10 a11) fun g15 h16 => (gq Prod.fst g15 (tg g15 this 11 (lt (sR h16 this 3 (some a11)) fun h21 => (gq Prod.fst (gA g15 3 9) (lt (gA g15 3 9) fun g22 => (lt (hZ h21 (gN g15)) fun h23 => (lt (gN g15) fun a24 => (tg g22 a24 3 (bd2 (pX3_init g22 h23 a24) fun g28 h29 => (gq Prod.fst g28 (tg g28 this 11 (lt (sR h29 this 4 (some a24)) fun h34 => (gq Prod.fst (gA g28 26 3) (lt (gA g28 26 3) fun g35 => (lt (hZ h34 (gN g28)) fun h36 => (lt (gN g28) fun a37 => (tg g35 this 11 (lt (sR h36 this 5 (some a37)) fun h41 => (pX12_init_l79 E this  FUEL 0 g35 h41)))))))))))))))))))))))))))))) else tg g this 11 (lt (hR h this 0) fun r43 => (gq Prod.fst (gA g 10 4) (lt (gA g 10 4) fun g44 => (lt (hZ h (gN g)) fun h45 => (lt (gN g) fun a46 => (tg g44 a46 10 (bd2 (pX11_init g44 h45 a46) fun g50 h51 => (gq Prod.fst g50 (nn r43 fun a43 => (tg g50 a43 28 (ix (gL g50 a43) l1 (tg g50 a46 10 (lt (sR h51 a43 (Int32.toNatClampNeg l1) (some a46)) fun h58 => (lt (l1 + 1) fun x59 => (k14 x59 g50 h58)))))))))))))))
set_option maxRecDepth 10000 in
set_option maxHeartbeats 4000000 in
theorem pX12_init_b14_ok {X : Cx} {G : Gx} {dk : Nat} {g0 : MT} {h0 : CT} {this : Nat} {k14 : Int32 → MT → CT → Option (MT × CT)} (Z : Zy X G cX12_init RX12 2 dk none none "<init>" g0 h0) (hK : 3 ≤ dk) {E : EC} (hE : G.2.2.2 = E) (hk14 : ∀ (l1 : Int32) (g : MT) (h : CT), RM X g → k14 l1 g h = some (g0, h0) → J X g h 14 [(0, va_rf (some this)), (1, .int l1)] []) (l1 : Int32) (g : MT) (h : CT) (M : RM X g) (hf : pX12_init_b14 E this k14 l1 g h = some (g0, h0)) : J X g h 14 [(0, va_rf (some this)), (1, .int l1)] [] := by
  unfold pX12_init_b14 at hf
  refine J_iload_n Z.1 1 dX12_init_14 rfl rfl ?_
  refine J_iconst Z.1 (v := 4) (by decide) dX12_init_15 ?_
  refine J_icmp_ge Z.1 38 dX12_init_16 (by decide) (fun c1 => ?_) (fun c1 => ?_)
  · rw [if_pos c1] at hf
    refine J_aload_n Z.1 0 dX12_init_38 rfl rfl ?_
    refine J_sipush Z.1 (v := 900) (by decide) dX12_init_39 ?_
    replace hf := gq_i hf
    obtain ⟨n5, hf⟩ := hf
    have M6 := rmA Z M n5
    refine J_newa (t := 3) (N := 900) .byte Z.1 dX12_init_42 rfl rfl (by decide) (fun _ q => by cases q) q_241 (by decide) (by decide) (by decide) M M6 ?_
    refine J_tg (fun g2 eg2 => ?_)
    rw [← eg2] at M6
    replace hf := lt_i hf g2 eg2
    refine J_th (fun h3 eh3 => ?_)
    replace hf := lt_i hf h3 eh3
    refine J_ta (fun a4 ea4 => ?_)
    replace hf := lt_i hf a4 ea4
    replace hf := tg_i hf
    obtain ⟨t7, hf⟩ := hf
    refine J_putR Z.1 dX12_init_44 fl_X12_16 (fun _ => ⟨Z.2.2.2.2.2.2.2, _, rfl, rfl⟩) t7 (Or.inr ⟨_, rfl⟩) ?_
    refine J_th (fun h8 eh8 => ?_)
    replace hf := lt_i hf h8 eh8
    refine J_aload_n Z.1 0 dX12_init_47 rfl rfl ?_
    replace hf := gq_i hf
    obtain ⟨n12, hf⟩ := hf
    have M13 := rmA Z M6 n12
    refine J_new (ci := 4) (r := (RX6, TX6, 12)) Z.1 dX12_init_48 rfl q_195 q_196 q_139 M6 M13 ?_
    refine J_tg (fun g9 eg9 => ?_)
    rw [← eg9] at M13
    replace hf := lt_i hf g9 eg9
    refine J_th (fun h10 eh10 => ?_)
    replace hf := lt_i hf h10 eh10
    refine J_ta (fun a11 ea11 => ?_)
    replace hf := lt_i hf a11 ea11
    refine J_dup Z.1 dX12_init_51 rfl ?_
    replace hf := tg_i hf
    obtain ⟨t14, hf⟩ := hf
    replace hf := bd2_i hf
    obtain ⟨g15, h16, q17, hf⟩ := hf
    replace hf := gq_i hf
    obtain ⟨n18, hf⟩ := hf
    have M19o := pX6_init_mono q17
    have M19 := rmC Z M13 M19o n18
    refine J_callI (as := []) (rest := [va_rf (some a11), va_rf (some this)]) (sy := [va_rf (some a11), va_rf (some this)]) Z.1 dX12_init_52 cw_X12_22 (pX6_init_ok G (dk - 1) (by omega) hE q17) (yG Z) rfl (by simp [cat_i, cat_l, cat_d, cat_rf]) (yF Z (by omega)) (yO Z (by omega) (by decide)) M19o M13 M19 rfl rfl ?_
    replace hf := tg_i hf
    obtain ⟨t20, hf⟩ := hf
    refine J_putR Z.1 dX12_init_55 fl_X12_23 (fun _ => ⟨Z.2.2.2.2.2.2.2, _, rfl, rfl⟩) t20 (Or.inl ⟨_, rfl⟩) ?_
    refine J_th (fun h21 eh21 => ?_)
    replace hf := lt_i hf h21 eh21
    refine J_aload_n Z.1 0 dX12_init_58 rfl rfl ?_
    replace hf := gq_i hf
    obtain ⟨n25, hf⟩ := hf
    have M26 := rmA Z M19 n25
    refine J_new (ci := 2) (r := (RX3, TX3, 9)) Z.1 dX12_init_59 rfl q_242 q_243 q_140 M19 M26 ?_
    refine J_tg (fun g22 eg22 => ?_)
    rw [← eg22] at M26
    replace hf := lt_i hf g22 eg22
    refine J_th (fun h23 eh23 => ?_)
    replace hf := lt_i hf h23 eh23
    refine J_ta (fun a24 ea24 => ?_)
    replace hf := lt_i hf a24 ea24
    refine J_dup Z.1 dX12_init_62 rfl ?_
    replace hf := tg_i hf
    obtain ⟨t27, hf⟩ := hf
    replace hf := bd2_i hf
    obtain ⟨g28, h29, q30, hf⟩ := hf
    replace hf := gq_i hf
    obtain ⟨n31, hf⟩ := hf
    have M32o := pX3_init_mono q30
    have M32 := rmC Z M26 M32o n31
    refine J_callI (as := []) (rest := [va_rf (some a24), va_rf (some this)]) (sy := [va_rf (some a24), va_rf (some this)]) Z.1 dX12_init_63 cw_X12_29 (pX3_init_ok G (dk - 1) (by omega) q30) (yG Z) rfl (by simp [cat_i, cat_l, cat_d, cat_rf]) (yF Z (by omega)) (yO Z (by omega) (by decide)) M32o M26 M32 rfl rfl ?_
    replace hf := tg_i hf
    obtain ⟨t33, hf⟩ := hf
    refine J_putR Z.1 dX12_init_66 fl_X12_30 (fun _ => ⟨Z.2.2.2.2.2.2.2, _, rfl, rfl⟩) t33 (Or.inl ⟨_, rfl⟩) ?_
    refine J_th (fun h34 eh34 => ?_)
    replace hf := lt_i hf h34 eh34
    refine J_aload_n Z.1 0 dX12_init_69 rfl rfl ?_
    refine J_iconst Z.1 (v := 3) (by decide) dX12_init_70 ?_
    replace hf := gq_i hf
    obtain ⟨n38, hf⟩ := hf
    have M39 := rmA Z M32 n38
    refine J_newq (t := 6) (N := 3) Z.1 dX12_init_71 rfl q_242 (kaoX3 Z.1) (by decide) (by decide) (by decide) M32 M39 ?_
    refine J_tg (fun g35 eg35 => ?_)
    rw [← eg35] at M39
    replace hf := lt_i hf g35 eg35
    refine J_th (fun h36 eh36 => ?_)
    replace hf := lt_i hf h36 eh36
    refine J_ta (fun a37 ea37 => ?_)
    replace hf := lt_i hf a37 ea37
    replace hf := tg_i hf
    obtain ⟨t40, hf⟩ := hf
    refine J_putR Z.1 dX12_init_74 fl_X12_34 (fun _ => ⟨Z.2.2.2.2.2.2.2, _, rfl, rfl⟩) t40 (Or.inr ⟨_, rfl⟩) ?_
    refine J_th (fun h41 eh41 => ?_)
    replace hf := lt_i hf h41 eh41
    refine J_iconst Z.1 (v := 0) (by decide) dX12_init_77 ?_
    refine J_istore_n Z.1 (lv2 := [(1, .int 0), (0, va_rf (some this))]) dX12_init_78 rfl (yL Z (by decide)) rfl ?_
    refine J_lv [1, 0] rfl ?_
    exact pX12_init_l79_ok Z hK hE  FUEL _ _ _ M39 hf
  · rw [if_neg c1] at hf
    refine J_aload_n Z.1 0 dX12_init_19 rfl rfl ?_
    replace hf := tg_i hf
    obtain ⟨t42, hf⟩ := hf
    refine J_get (v := va_rf (hR h this 0)) Z.1 dX12_init_20 fl_X12_11 t42 rfl ?_
    refine J_tr (fun r43 er43 => ?_)
    replace hf := lt_i hf r43 er43
    refine J_iload_n Z.1 1 dX12_init_23 rfl rfl ?_
    replace hf := gq_i hf
    obtain ⟨n47, hf⟩ := hf
    have M48 := rmA Z M n47
    refine J_new (ci := 9) (r := (RX11, TX11, 4)) Z.1 dX12_init_24 rfl q_170 q_172 q_138 M M48 ?_
    refine J_tg (fun g44 eg44 => ?_)
    rw [← eg44] at M48
    replace hf := lt_i hf g44 eg44
    refine J_th (fun h45 eh45 => ?_)
    replace hf := lt_i hf h45 eh45
    refine J_ta (fun a46 ea46 => ?_)
    replace hf := lt_i hf a46 ea46
    refine J_dup Z.1 dX12_init_27 rfl ?_
    replace hf := tg_i hf
    obtain ⟨t49, hf⟩ := hf
    replace hf := bd2_i hf
    obtain ⟨g50, h51, q52, hf⟩ := hf
    replace hf := gq_i hf
    obtain ⟨n53, hf⟩ := hf
    have M54o := pX11_init_mono q52
    have M54 := rmC Z M48 M54o n53
    refine J_callI (as := []) (rest := [va_rf (some a46), .int l1, va_rf r43]) (sy := [va_rf (some a46), .int l1, va_rf r43]) Z.1 dX12_init_28 cw_X12_15 (pX11_init_ok G (dk - 1) (by omega) q52) (yG Z) rfl (by simp [cat_i, cat_l, cat_d, cat_rf]) (yF Z (by omega)) (yO Z (by omega) (by decide)) M54o M48 M54 rfl rfl ?_
    replace hf := nn_i hf
    obtain ⟨a43, rfl, hf⟩ := hf
    replace hf := tg_i hf
    obtain ⟨t55, hf⟩ := hf
    replace hf := ix_i hf
    obtain ⟨i56, hf⟩ := hf
    replace hf := tg_i hf
    obtain ⟨t57, hf⟩ := hf
    refine J_aastore (t := 8) (ci := 9) (r := (RX11, TX11, 4)) Z.1 dX12_init_31 t55 rfl rfl t57 i56 ?_
    refine J_th (fun h58 eh58 => ?_)
    replace hf := lt_i hf h58 eh58
    refine J_iinc Z.1 (v := 1) (lv2 := [(1, .int (l1 + 1)), (0, va_rf (some this))]) 1 dX12_init_32 rfl (by decide) (yL Z (by decide)) rfl ?_
    obtain ⟨x59, ex59⟩ : ∃ z, z = (l1 + 1) := ⟨_, rfl⟩
    replace hf := lt_i hf x59 ex59
    rw [← ex59]
    refine J_goto Z.1 14 dX12_init_35 (by decide) ?_
    refine J_lv [1, 0] rfl ?_
    exact hk14 _ _ _ M54 hf
def pX12_init_l14 (E : EC) (this : Nat) : Nat → Int32 → MT → CT → Option (MT × CT)
  | 0, _, _, _ => none
  | n + 1, l1, g, h => pX12_init_b14 E this (pX12_init_l14 E this n) l1 g h
theorem pX12_init_l14_ok {X : Cx} {G : Gx} {dk : Nat} {g0 : MT} {h0 : CT} {this : Nat} (Z : Zy X G cX12_init RX12 2 dk none none "<init>" g0 h0) (hK : 3 ≤ dk) {E : EC} (hE : G.2.2.2 = E) : ∀ (n : Nat) (l1 : Int32) (g : MT) (h : CT), RM X g → pX12_init_l14 E this n l1 g h = some (g0, h0) → J X g h 14 [(0, va_rf (some this)), (1, .int l1)] [] := by
  intro n
  induction n with
  | zero => intro l1 g h M hf; cases hf
  | succ n ih => intro l1 g h M hf; exact pX12_init_b14_ok Z hK hE ih l1 g h M hf
def pX12_init (E : EC) (g : MT) (h : CT) (this : Nat) : Option (MT × CT) := gq Prod.fst g (gq Prod.fst (gA g 28 4) (lt (gA g 28 4) fun g1 => (lt (hZ h (gN g)) fun h2 => (lt (gN g) fun a3 => (tg g1 this 11 (lt (sR h2 this 0 (some a3)) fun h7 => (pX12_init_l14 E this  FUEL 0 g1 h7)))))))
theorem pX12_init_mono {E : EC} {g g0 : MT} {h h0 : CT} {this : Nat} (hf : pX12_init E g h this = some (g0, h0)) : gN g ≤ gN g0 ∧ gU g ≤ gU g0 := by
  unfold pX12_init at hf
  exact (gq_i hf).1
set_option maxRecDepth 10000 in
set_option maxHeartbeats 4000000 in
theorem pX12_init_ok (G : Gx) (dk : Nat) (hK : 3 ≤ dk) {E : EC} (hE : G.2.2.2 = E) {g g0 : MT} {h h0 : CT} {this : Nat} (hf : pX12_init E g h this = some (g0, h0)) : Ctr G dk yX12_init cX12_init 2 none [va_rf (some this)] g h none g0 h0 := by
  unfold pX12_init at hf
  replace hf := gq_i hf
  obtain ⟨hm, hf⟩ := hf
  refine Ctr.ofY (lv := [(0, va_rf (some this))]) (by decide +kernel) (by simp [cat_i, cat_l, cat_d, cat_rf]) rfl hm fun X Z M => ?_
  refine J_aload_n Z.1 0 dX12_init_0 rfl rfl ?_
  refine J_objInit Z.1 dX12_init_1 q_167 q_168 q_169 (yO2 Z (by omega) (by simp [cat_i, cat_l, cat_d, cat_rf])) (yF Z (d := 0) (by omega)) ?_
  refine J_aload_n Z.1 0 dX12_init_4 rfl rfl ?_
  refine J_iconst Z.1 (v := 4) (by decide) dX12_init_5 ?_
  replace hf := gq_i hf
  obtain ⟨n4, hf⟩ := hf
  have M5 := rmA Z M n4
  refine J_newq (t := 8) (N := 4) Z.1 dX12_init_6 rfl q_170 (kaoX11 Z.1) (by decide) (by decide) (by decide) M M5 ?_
  refine J_tg (fun g1 eg1 => ?_)
  rw [← eg1] at M5
  replace hf := lt_i hf g1 eg1
  refine J_th (fun h2 eh2 => ?_)
  replace hf := lt_i hf h2 eh2
  refine J_ta (fun a3 ea3 => ?_)
  replace hf := lt_i hf a3 ea3
  replace hf := tg_i hf
  obtain ⟨t6, hf⟩ := hf
  refine J_putR Z.1 dX12_init_9 fl_X12_11 (fun _ => ⟨Z.2.2.2.2.2.2.2, _, rfl, rfl⟩) t6 (Or.inr ⟨_, rfl⟩) ?_
  refine J_th (fun h7 eh7 => ?_)
  replace hf := lt_i hf h7 eh7
  refine J_iconst Z.1 (v := 0) (by decide) dX12_init_12 ?_
  refine J_istore_n Z.1 (lv2 := [(1, .int 0), (0, va_rf (some this))]) dX12_init_13 rfl (yL Z (by decide)) rfl ?_
  refine J_lv [1, 0] rfl ?_
  exact pX12_init_l14_ok Z hK hE  FUEL _ _ _ M5 hf
theorem dX12_status_0 : decode cX12_status 0 = .ok (.aload_n 0, 1) := by decide +kernel
theorem dX12_status_1 : decode cX12_status 1 = .ok (.getfield 90, 3) := by decide +kernel
theorem dX12_status_4 : decode cX12_status 4 = .ok (.ireturn, 1) := by decide +kernel
def pX12_status (g : MT) (h : CT) (this : Nat) : Option Int32 := tg g this 11 (some (hI h this 19))
set_option maxRecDepth 10000 in
set_option maxHeartbeats 4000000 in
theorem pX12_status_ok (G : Gx) (dk : Nat) (hK : 0 ≤ dk) {g : MT} {h : CT} {this : Nat} {r0 : Int32} (hf : pX12_status g h this = some r0) : Ctr G dk yX12_status cX12_status 1 (some .int) [va_rf (some this)] g h (some (.int r0)) g h := by
  refine Ctr.ofZ (lv := [(0, va_rf (some this))]) (by decide +kernel) (by simp [cat_i, cat_l, cat_d, cat_rf]) rfl fun X Z => ?_
  unfold pX12_status at hf
  replace hf := tg_i hf
  obtain ⟨t0, hf⟩ := hf
  refine J_aload_n Z.1 0 dX12_status_0 rfl rfl ?_
  refine J_get (v := .int (hI h this 19)) Z.1 dX12_status_1 fl_X12_90 t0 rfl ?_
  cases hf
  exact J_iret Z.1 Z.2.2.2.2.2 dX12_status_4
theorem dX12_mantissa_0 : decode cX12_mantissa 0 = .ok (.aload_n 0, 1) := by decide +kernel
theorem dX12_mantissa_1 : decode cX12_mantissa 1 = .ok (.getfield 41, 3) := by decide +kernel
theorem dX12_mantissa_4 : decode cX12_mantissa 4 = .ok (.getfield 94, 3) := by decide +kernel
theorem dX12_mantissa_7 : decode cX12_mantissa 7 = .ok (.lreturn, 1) := by decide +kernel
def pX12_mantissa (g : MT) (h : CT) (this : Nat) : Option Int64 := tg g this 11 (lt (hR h this 14) fun r1 => (nn r1 fun a1 => (tg g a1 1 (some (hL h a1 0)))))
set_option maxRecDepth 10000 in
set_option maxHeartbeats 4000000 in
theorem pX12_mantissa_ok (G : Gx) (dk : Nat) (hK : 0 ≤ dk) {g : MT} {h : CT} {this : Nat} {r0 : Int64} (hf : pX12_mantissa g h this = some r0) : Ctr G dk yX12_mantissa cX12_mantissa 1 (some .long) [va_rf (some this)] g h (some (.long r0)) g h := by
  refine Ctr.ofZ (lv := [(0, va_rf (some this))]) (by decide +kernel) (by simp [cat_i, cat_l, cat_d, cat_rf]) rfl fun X Z => ?_
  unfold pX12_mantissa at hf
  replace hf := tg_i hf
  obtain ⟨t0, hf⟩ := hf
  refine J_aload_n Z.1 0 dX12_mantissa_0 rfl rfl ?_
  refine J_get (v := va_rf (hR h this 14)) Z.1 dX12_mantissa_1 fl_X12_41 t0 rfl ?_
  refine J_tr (fun r1 er1 => ?_)
  replace hf := lt_i hf r1 er1
  replace hf := nn_i hf
  obtain ⟨a1, rfl, hf⟩ := hf
  replace hf := tg_i hf
  obtain ⟨t2, hf⟩ := hf
  refine J_get (v := .long (hL h a1 0)) Z.1 dX12_mantissa_4 fl_X12_94 t2 rfl ?_
  cases hf
  exact J_lret Z.1 Z.2.2.2.2.2 dX12_mantissa_7
theorem dX12_exponent_0 : decode cX12_exponent 0 = .ok (.aload_n 0, 1) := by decide +kernel
theorem dX12_exponent_1 : decode cX12_exponent 1 = .ok (.getfield 41, 3) := by decide +kernel
theorem dX12_exponent_4 : decode cX12_exponent 4 = .ok (.getfield 98, 3) := by decide +kernel
theorem dX12_exponent_7 : decode cX12_exponent 7 = .ok (.ireturn, 1) := by decide +kernel
def pX12_exponent (g : MT) (h : CT) (this : Nat) : Option Int32 := tg g this 11 (lt (hR h this 14) fun r1 => (nn r1 fun a1 => (tg g a1 1 (some (hI h a1 1)))))
set_option maxRecDepth 10000 in
set_option maxHeartbeats 4000000 in
theorem pX12_exponent_ok (G : Gx) (dk : Nat) (hK : 0 ≤ dk) {g : MT} {h : CT} {this : Nat} {r0 : Int32} (hf : pX12_exponent g h this = some r0) : Ctr G dk yX12_exponent cX12_exponent 1 (some .int) [va_rf (some this)] g h (some (.int r0)) g h := by
  refine Ctr.ofZ (lv := [(0, va_rf (some this))]) (by decide +kernel) (by simp [cat_i, cat_l, cat_d, cat_rf]) rfl fun X Z => ?_
  unfold pX12_exponent at hf
  replace hf := tg_i hf
  obtain ⟨t0, hf⟩ := hf
  refine J_aload_n Z.1 0 dX12_exponent_0 rfl rfl ?_
  refine J_get (v := va_rf (hR h this 14)) Z.1 dX12_exponent_1 fl_X12_41 t0 rfl ?_
  refine J_tr (fun r1 er1 => ?_)
  replace hf := lt_i hf r1 er1
  replace hf := nn_i hf
  obtain ⟨a1, rfl, hf⟩ := hf
  replace hf := tg_i hf
  obtain ⟨t2, hf⟩ := hf
  refine J_get (v := .int (hI h a1 1)) Z.1 dX12_exponent_4 fl_X12_98 t2 rfl ?_
  cases hf
  exact J_iret Z.1 Z.2.2.2.2.2 dX12_exponent_7
theorem dX12_refuse_0 : decode cX12_refuse 0 = .ok (.aload_n 0, 1) := by decide +kernel
theorem dX12_refuse_1 : decode cX12_refuse 1 = .ok (.iload_n 1, 1) := by decide +kernel
theorem dX12_refuse_2 : decode cX12_refuse 2 = .ok (.putfield 90, 3) := by decide +kernel
theorem dX12_refuse_5 : decode cX12_refuse 5 = .ok (.iconst (-1), 1) := by decide +kernel
theorem dX12_refuse_6 : decode cX12_refuse 6 = .ok (.ireturn, 1) := by decide +kernel
def pX12_refuse (g : MT) (h : CT) (this : Nat) (p1 : Int32) : Option ((Int32) × CT) := tg g this 11 (lt (sI h this 19 p1) fun h1 => (some ((-1), h1)))
set_option maxRecDepth 10000 in
set_option maxHeartbeats 4000000 in
theorem pX12_refuse_ok (G : Gx) (dk : Nat) (hK : 0 ≤ dk) {g : MT} {h h0 : CT} {this : Nat} {p1 : Int32} {r0 : Int32} (hf : pX12_refuse g h this p1 = some (r0, h0)) : Ctr G dk yX12_refuse cX12_refuse 2 (some .int) [va_rf (some this), .int p1] g h (some (.int r0)) g h0 := by
  refine Ctr.ofZ (lv := [(0, va_rf (some this)), (1, .int p1)]) (by decide +kernel) (by simp [cat_i, cat_l, cat_d, cat_rf]) rfl fun X Z => ?_
  unfold pX12_refuse at hf
  replace hf := tg_i hf
  obtain ⟨t0, hf⟩ := hf
  refine J_aload_n Z.1 0 dX12_refuse_0 rfl rfl ?_
  refine J_iload_n Z.1 1 dX12_refuse_1 rfl rfl ?_
  refine J_putI Z.1 dX12_refuse_2 fl_X12_90 (fun q => by cases q) t0 rfl rfl (congrArg Value.int (hI_s _ _ _ _)) ?_
  refine J_th (fun h1 eh1 => ?_)
  replace hf := lt_i hf h1 eh1
  refine J_iconst Z.1 (v := (-1)) (by decide) dX12_refuse_5 ?_
  cases hf
  exact J_iret Z.1 Z.2.2.2.2.2 dX12_refuse_6
theorem dX12_deny_0 : decode cX12_deny 0 = .ok (.aload_n 0, 1) := by decide +kernel
theorem dX12_deny_1 : decode cX12_deny 1 = .ok (.iload_n 1, 1) := by decide +kernel
theorem dX12_deny_2 : decode cX12_deny 2 = .ok (.putfield 90, 3) := by decide +kernel
theorem dX12_deny_5 : decode cX12_deny 5 = .ok (.iconst 0, 1) := by decide +kernel
theorem dX12_deny_6 : decode cX12_deny 6 = .ok (.ireturn, 1) := by decide +kernel
def pX12_deny (g : MT) (h : CT) (this : Nat) (p1 : Int32) : Option ((Int32) × CT) := tg g this 11 (lt (sI h this 19 p1) fun h1 => (some (0, h1)))
set_option maxRecDepth 10000 in
set_option maxHeartbeats 4000000 in
theorem pX12_deny_ok (G : Gx) (dk : Nat) (hK : 0 ≤ dk) {g : MT} {h h0 : CT} {this : Nat} {p1 : Int32} {r0 : Int32} (hf : pX12_deny g h this p1 = some (r0, h0)) : Ctr G dk yX12_deny cX12_deny 2 (some .boolean) [va_rf (some this), .int p1] g h (some (.int r0)) g h0 := by
  refine Ctr.ofZ (lv := [(0, va_rf (some this)), (1, .int p1)]) (by decide +kernel) (by simp [cat_i, cat_l, cat_d, cat_rf]) rfl fun X Z => ?_
  unfold pX12_deny at hf
  replace hf := tg_i hf
  obtain ⟨t0, hf⟩ := hf
  refine J_aload_n Z.1 0 dX12_deny_0 rfl rfl ?_
  refine J_iload_n Z.1 1 dX12_deny_1 rfl rfl ?_
  refine J_putI Z.1 dX12_deny_2 fl_X12_90 (fun q => by cases q) t0 rfl rfl (congrArg Value.int (hI_s _ _ _ _)) ?_
  refine J_th (fun h1 eh1 => ?_)
  replace hf := lt_i hf h1 eh1
  refine J_iconst Z.1 (v := 0) (by decide) dX12_deny_5 ?_
  cases hf
  exact J_zret Z.1 Z.2.2.2.2.2 (z_n (Or.inl rfl)) dX12_deny_6
theorem dX12_answer_0 : decode cX12_answer 0 = .ok (.aload_n 0, 1) := by decide +kernel
theorem dX12_answer_1 : decode cX12_answer 1 = .ok (.iconst 0, 1) := by decide +kernel
theorem dX12_answer_2 : decode cX12_answer 2 = .ok (.putfield 90, 3) := by decide +kernel
theorem dX12_answer_5 : decode cX12_answer 5 = .ok (.iload_n 1, 1) := by decide +kernel
theorem dX12_answer_6 : decode cX12_answer 6 = .ok (.ireturn, 1) := by decide +kernel
def pX12_answer (g : MT) (h : CT) (this : Nat) (p1 : Int32) : Option ((Int32) × CT) := tg g this 11 (lt (sI h this 19 0) fun h1 => (some (p1, h1)))
set_option maxRecDepth 10000 in
set_option maxHeartbeats 4000000 in
theorem pX12_answer_ok (G : Gx) (dk : Nat) (hK : 0 ≤ dk) {g : MT} {h h0 : CT} {this : Nat} {p1 : Int32} {r0 : Int32} (hf : pX12_answer g h this p1 = some (r0, h0)) : Ctr G dk yX12_answer cX12_answer 2 (some .int) [va_rf (some this), .int p1] g h (some (.int r0)) g h0 := by
  refine Ctr.ofZ (lv := [(0, va_rf (some this)), (1, .int p1)]) (by decide +kernel) (by simp [cat_i, cat_l, cat_d, cat_rf]) rfl fun X Z => ?_
  unfold pX12_answer at hf
  replace hf := tg_i hf
  obtain ⟨t0, hf⟩ := hf
  refine J_aload_n Z.1 0 dX12_answer_0 rfl rfl ?_
  refine J_iconst Z.1 (v := 0) (by decide) dX12_answer_1 ?_
  refine J_putI Z.1 dX12_answer_2 fl_X12_90 (fun q => by cases q) t0 rfl rfl (congrArg Value.int (hI_s _ _ _ _)) ?_
  refine J_th (fun h1 eh1 => ?_)
  replace hf := lt_i hf h1 eh1
  refine J_iload_n Z.1 1 dX12_answer_5 rfl rfl ?_
  cases hf
  exact J_iret Z.1 Z.2.2.2.2.2 dX12_answer_6
theorem dX12_agree_0 : decode cX12_agree 0 = .ok (.aload_n 0, 1) := by decide +kernel
theorem dX12_agree_1 : decode cX12_agree 1 = .ok (.iconst 0, 1) := by decide +kernel
theorem dX12_agree_2 : decode cX12_agree 2 = .ok (.putfield 90, 3) := by decide +kernel
theorem dX12_agree_5 : decode cX12_agree 5 = .ok (.iconst 1, 1) := by decide +kernel
theorem dX12_agree_6 : decode cX12_agree 6 = .ok (.ireturn, 1) := by decide +kernel
def pX12_agree (g : MT) (h : CT) (this : Nat) : Option ((Int32) × CT) := tg g this 11 (lt (sI h this 19 0) fun h1 => (some (1, h1)))
set_option maxRecDepth 10000 in
set_option maxHeartbeats 4000000 in
theorem pX12_agree_ok (G : Gx) (dk : Nat) (hK : 0 ≤ dk) {g : MT} {h h0 : CT} {this : Nat} {r0 : Int32} (hf : pX12_agree g h this = some (r0, h0)) : Ctr G dk yX12_agree cX12_agree 1 (some .boolean) [va_rf (some this)] g h (some (.int r0)) g h0 := by
  refine Ctr.ofZ (lv := [(0, va_rf (some this))]) (by decide +kernel) (by simp [cat_i, cat_l, cat_d, cat_rf]) rfl fun X Z => ?_
  unfold pX12_agree at hf
  replace hf := tg_i hf
  obtain ⟨t0, hf⟩ := hf
  refine J_aload_n Z.1 0 dX12_agree_0 rfl rfl ?_
  refine J_iconst Z.1 (v := 0) (by decide) dX12_agree_1 ?_
  refine J_putI Z.1 dX12_agree_2 fl_X12_90 (fun q => by cases q) t0 rfl rfl (congrArg Value.int (hI_s _ _ _ _)) ?_
  refine J_th (fun h1 eh1 => ?_)
  replace hf := lt_i hf h1 eh1
  refine J_iconst Z.1 (v := 1) (by decide) dX12_agree_5 ?_
  cases hf
  exact J_zret Z.1 Z.2.2.2.2.2 (z_n (Or.inr rfl)) dX12_agree_6
theorem dX12_within_0 : decode cX12_within 0 = .ok (.iload_n 0, 1) := by decide +kernel
theorem dX12_within_1 : decode cX12_within 1 = .ok (.iload_n 1, 1) := by decide +kernel
theorem dX12_within_2 : decode cX12_within 2 = .ok (.if_icmp .lt 12, 3) := by decide +kernel
theorem dX12_within_5 : decode cX12_within 5 = .ok (.iload_n 0, 1) := by decide +kernel
theorem dX12_within_6 : decode cX12_within 6 = .ok (.iload_n 2, 1) := by decide +kernel
theorem dX12_within_7 : decode cX12_within 7 = .ok (.if_icmp .gt 7, 3) := by decide +kernel
theorem dX12_within_10 : decode cX12_within 10 = .ok (.iconst 1, 1) := by decide +kernel
theorem dX12_within_11 : decode cX12_within 11 = .ok (.goto 4, 3) := by decide +kernel
theorem dX12_within_14 : decode cX12_within 14 = .ok (.iconst 0, 1) := by decide +kernel
theorem dX12_within_15 : decode cX12_within 15 = .ok (.ireturn, 1) := by decide +kernel
def pX12_within (p0 : Int32) (p1 : Int32) (p2 : Int32) : Int32 := if p0 < p1 then 0 else if p2 < p0 then 0 else 1
set_option maxRecDepth 10000 in
set_option maxHeartbeats 4000000 in
theorem pX12_within_ok (G : Gx) (dk : Nat) (hK : 0 ≤ dk) (g : MT) (h0 : CT) (p0 : Int32) (p1 : Int32) (p2 : Int32) : Ctr G dk yX12_within cX12_within 3 (some .boolean) [.int p0, .int p1, .int p2] g h0 (some (.int (pX12_within p0 p1 p2))) g h0 := by
  obtain ⟨r0, hf⟩ : ∃ z, pX12_within p0 p1 p2 = z := ⟨_, rfl⟩
  rw [hf]
  refine Ctr.ofZ (lv := [(0, .int p0), (1, .int p1), (2, .int p2)]) (by decide +kernel) (by simp [cat_i, cat_l, cat_d, cat_rf]) rfl fun X Z => ?_
  unfold pX12_within at hf
  refine J_iload_n Z.1 0 dX12_within_0 rfl rfl ?_
  refine J_iload_n Z.1 1 dX12_within_1 rfl rfl ?_
  refine J_icmp_lt Z.1 14 dX12_within_2 (by decide) (fun c1 => ?_) (fun c1 => ?_)
  · rw [if_pos c1] at hf
    refine J_iconst Z.1 (v := 0) (by decide) dX12_within_14 ?_
    cases hf
    exact J_zret Z.1 Z.2.2.2.2.2 (z_n (Or.inl rfl)) dX12_within_15
  · rw [if_neg c1] at hf
    refine J_iload_n Z.1 0 dX12_within_5 rfl rfl ?_
    refine J_iload_n Z.1 2 dX12_within_6 rfl rfl ?_
    refine J_icmp_gt Z.1 14 dX12_within_7 (by decide) (fun c2 => ?_) (fun c2 => ?_)
    · rw [if_pos c2] at hf
      refine J_iconst Z.1 (v := 0) (by decide) dX12_within_14 ?_
      cases hf
      exact J_zret Z.1 Z.2.2.2.2.2 (z_n (Or.inl rfl)) dX12_within_15
    · rw [if_neg c2] at hf
      refine J_iconst Z.1 (v := 1) (by decide) dX12_within_10 ?_
      refine J_goto Z.1 15 dX12_within_11 (by decide) ?_
      cases hf
      exact J_zret Z.1 Z.2.2.2.2.2 (z_n (Or.inr rfl)) dX12_within_15
theorem pX12_within_z (p0 : Int32) (p1 : Int32) (p2 : Int32) : is01 (pX12_within p0 p1 p2) := by
  unfold pX12_within
  (try split) <;> (try split) <;> (try split) <;> (try split) <;> (try split) <;> (try split) <;> (try split) <;> (try split) <;> first | exact Or.inl rfl | exact Or.inr rfl
theorem dX12_isWord_0 : decode cX12_isWord 0 = .ok (.iload_n 0, 1) := by decide +kernel
theorem dX12_isWord_1 : decode cX12_isWord 1 = .ok (.iconst 0, 1) := by decide +kernel
theorem dX12_isWord_2 : decode cX12_isWord 2 = .ok (.bipush 63, 2) := by decide +kernel
theorem dX12_isWord_4 : decode cX12_isWord 4 = .ok (.invokestatic 109, 3) := by decide +kernel
theorem dX12_isWord_7 : decode cX12_isWord 7 = .ok (.ireturn, 1) := by decide +kernel
def pX12_isWord (p0 : Int32) : Int32 := (pX12_within p0 0 63)
set_option maxRecDepth 10000 in
set_option maxHeartbeats 4000000 in
theorem pX12_isWord_ok (G : Gx) (dk : Nat) (hK : 1 ≤ dk) (g : MT) (h0 : CT) (p0 : Int32) : Ctr G dk yX12_isWord cX12_isWord 1 (some .boolean) [.int p0] g h0 (some (.int (pX12_isWord p0))) g h0 := by
  obtain ⟨r0, hf⟩ : ∃ z, pX12_isWord p0 = z := ⟨_, rfl⟩
  rw [hf]
  refine Ctr.ofZ (lv := [(0, .int p0)]) (by decide +kernel) (by simp [cat_i, cat_l, cat_d, cat_rf]) rfl fun X Z => ?_
  unfold pX12_isWord at hf
  refine J_iload_n Z.1 0 dX12_isWord_0 rfl rfl ?_
  refine J_iconst Z.1 (v := 0) (by decide) dX12_isWord_1 ?_
  refine J_bipush Z.1 (v := 63) (by decide) dX12_isWord_2 ?_
  refine J_callS (as := [.int p0, .int 0, .int 63]) (rest := []) (sy := [.int (pX12_within p0 0 63)]) Z.1 dX12_isWord_4 cw_X12_109 (pX12_within_ok G (dk - 1) (by omega) g h0 p0 0 63) (zG Z) rfl (by decide) (zF Z (by omega)) (zO Z (by omega) (by decide)) (zM _) Z.2.1 Z.2.1 rfl rfl ?_
  cases hf
  exact J_zret Z.1 Z.2.2.2.2.2 (z_n (pX12_within_z p0 0 63)) dX12_isWord_7
theorem pX12_isWord_z (p0 : Int32) : is01 (pX12_isWord p0) := by
  unfold pX12_isWord
  (try split) <;> (try split) <;> (try split) <;> (try split) <;> (try split) <;> (try split) <;> (try split) <;> (try split) <;> first | exact Or.inl rfl | exact Or.inr rfl | exact pX12_within_z _ _ _
theorem dX12_isTray_0 : decode cX12_isTray 0 = .ok (.iload_n 0, 1) := by decide +kernel
theorem dX12_isTray_1 : decode cX12_isTray 1 = .ok (.iconst 0, 1) := by decide +kernel
theorem dX12_isTray_2 : decode cX12_isTray 2 = .ok (.iconst 3, 1) := by decide +kernel
theorem dX12_isTray_3 : decode cX12_isTray 3 = .ok (.invokestatic 109, 3) := by decide +kernel
theorem dX12_isTray_6 : decode cX12_isTray 6 = .ok (.ireturn, 1) := by decide +kernel
def pX12_isTray (p0 : Int32) : Int32 := (pX12_within p0 0 3)
set_option maxRecDepth 10000 in
set_option maxHeartbeats 4000000 in
theorem pX12_isTray_ok (G : Gx) (dk : Nat) (hK : 1 ≤ dk) (g : MT) (h0 : CT) (p0 : Int32) : Ctr G dk yX12_isTray cX12_isTray 1 (some .boolean) [.int p0] g h0 (some (.int (pX12_isTray p0))) g h0 := by
  obtain ⟨r0, hf⟩ : ∃ z, pX12_isTray p0 = z := ⟨_, rfl⟩
  rw [hf]
  refine Ctr.ofZ (lv := [(0, .int p0)]) (by decide +kernel) (by simp [cat_i, cat_l, cat_d, cat_rf]) rfl fun X Z => ?_
  unfold pX12_isTray at hf
  refine J_iload_n Z.1 0 dX12_isTray_0 rfl rfl ?_
  refine J_iconst Z.1 (v := 0) (by decide) dX12_isTray_1 ?_
  refine J_iconst Z.1 (v := 3) (by decide) dX12_isTray_2 ?_
  refine J_callS (as := [.int p0, .int 0, .int 3]) (rest := []) (sy := [.int (pX12_within p0 0 3)]) Z.1 dX12_isTray_3 cw_X12_109 (pX12_within_ok G (dk - 1) (by omega) g h0 p0 0 3) (zG Z) rfl (by decide) (zF Z (by omega)) (zO Z (by omega) (by decide)) (zM _) Z.2.1 Z.2.1 rfl rfl ?_
  cases hf
  exact J_zret Z.1 Z.2.2.2.2.2 (z_n (pX12_within_z p0 0 3)) dX12_isTray_6
theorem pX12_isTray_z (p0 : Int32) : is01 (pX12_isTray p0) := by
  unfold pX12_isTray
  (try split) <;> (try split) <;> (try split) <;> (try split) <;> (try split) <;> (try split) <;> (try split) <;> (try split) <;> first | exact Or.inl rfl | exact Or.inr rfl | exact pX12_within_z _ _ _
theorem dX12_tray_0 : decode cX12_tray 0 = .ok (.iload_n 1, 1) := by decide +kernel
theorem dX12_tray_1 : decode cX12_tray 1 = .ok (.invokestatic 113, 3) := by decide +kernel
theorem dX12_tray_4 : decode cX12_tray 4 = .ok (.ifCond .eq 12, 3) := by decide +kernel
theorem dX12_tray_7 : decode cX12_tray 7 = .ok (.iload_n 2, 1) := by decide +kernel
theorem dX12_tray_8 : decode cX12_tray 8 = .ok (.iconst 0, 1) := by decide +kernel
theorem dX12_tray_9 : decode cX12_tray 9 = .ok (.iconst 3, 1) := by decide +kernel
theorem dX12_tray_10 : decode cX12_tray 10 = .ok (.invokestatic 109, 3) := by decide +kernel
theorem dX12_tray_13 : decode cX12_tray 13 = .ok (.ifCond .ne 9, 3) := by decide +kernel
theorem dX12_tray_16 : decode cX12_tray 16 = .ok (.aload_n 0, 1) := by decide +kernel
theorem dX12_tray_17 : decode cX12_tray 17 = .ok (.iconst 1, 1) := by decide +kernel
theorem dX12_tray_18 : decode cX12_tray 18 = .ok (.invokevirtual 117, 3) := by decide +kernel
theorem dX12_tray_21 : decode cX12_tray 21 = .ok (.ireturn, 1) := by decide +kernel
theorem dX12_tray_22 : decode cX12_tray 22 = .ok (.iload_n 3, 1) := by decide +kernel
theorem dX12_tray_23 : decode cX12_tray 23 = .ok (.bipush 60, 2) := by decide +kernel
theorem dX12_tray_25 : decode cX12_tray 25 = .ok (.if_icmp .le 9, 3) := by decide +kernel
theorem dX12_tray_28 : decode cX12_tray 28 = .ok (.aload_n 0, 1) := by decide +kernel
theorem dX12_tray_29 : decode cX12_tray 29 = .ok (.iconst 5, 1) := by decide +kernel
theorem dX12_tray_30 : decode cX12_tray 30 = .ok (.invokevirtual 117, 3) := by decide +kernel
theorem dX12_tray_33 : decode cX12_tray 33 = .ok (.ireturn, 1) := by decide +kernel
theorem dX12_tray_34 : decode cX12_tray 34 = .ok (.iload_n 3, 1) := by decide +kernel
theorem dX12_tray_35 : decode cX12_tray 35 = .ok (.ifCond .ge 10, 3) := by decide +kernel
theorem dX12_tray_38 : decode cX12_tray 38 = .ok (.aload_n 0, 1) := by decide +kernel
theorem dX12_tray_39 : decode cX12_tray 39 = .ok (.bipush 6, 2) := by decide +kernel
theorem dX12_tray_41 : decode cX12_tray 41 = .ok (.invokevirtual 117, 3) := by decide +kernel
theorem dX12_tray_44 : decode cX12_tray 44 = .ok (.ireturn, 1) := by decide +kernel
theorem dX12_tray_45 : decode cX12_tray 45 = .ok (.aload_n 0, 1) := by decide +kernel
theorem dX12_tray_46 : decode cX12_tray 46 = .ok (.getfield 11, 3) := by decide +kernel
theorem dX12_tray_49 : decode cX12_tray 49 = .ok (.iload_n 1, 1) := by decide +kernel
theorem dX12_tray_50 : decode cX12_tray 50 = .ok (.aaload, 1) := by decide +kernel
theorem dX12_tray_51 : decode cX12_tray 51 = .ok (.iload_n 2, 1) := by decide +kernel
theorem dX12_tray_52 : decode cX12_tray 52 = .ok (.iload_n 3, 1) := by decide +kernel
theorem dX12_tray_53 : decode cX12_tray 53 = .ok (.invokevirtual 120, 3) := by decide +kernel
theorem dX12_tray_56 : decode cX12_tray 56 = .ok (.aload_n 0, 1) := by decide +kernel
theorem dX12_tray_57 : decode cX12_tray 57 = .ok (.invokevirtual 124, 3) := by decide +kernel
theorem dX12_tray_60 : decode cX12_tray 60 = .ok (.ireturn, 1) := by decide +kernel
def pX12_tray_b16 (g : MT) (this : Nat) (p1 : Int32) (p2 : Int32) (p3 : Int32) (h : CT) : Option ((Int32) × CT) := bd2 (pX12_deny g h this 1) fun x3 h1 => (bz x3 (some (x3, h1)))
set_option maxRecDepth 10000 in
set_option maxHeartbeats 4000000 in
theorem pX12_tray_b16_ok {X : Cx} {G : Gx} {dk : Nat} {g : MT} {r0 : Int32} {h0 : CT} {this : Nat} {p1 : Int32} {p2 : Int32} {p3 : Int32} (Z : Zx X G cX12_tray RX12 4 dk (some .boolean) (some (.int r0)) g h0) (hK : 2 ≤ dk) (t0 : gT g this = 11) (h : CT) (hf : pX12_tray_b16 g this p1 p2 p3 h = some (r0, h0)) : J X g h 16 [(0, va_rf (some this))] [] := by
  unfold pX12_tray_b16 at hf
  refine J_aload_n Z.1 0 dX12_tray_16 rfl rfl ?_
  refine J_iconst Z.1 (v := 1) (by decide) dX12_tray_17 ?_
  replace hf := bd2_i hf
  obtain ⟨x3, h1, q2, hf⟩ := hf
  refine J_callV (ci := 10) (as := [.int 1]) (rest := []) (sy := [.int x3]) Z.1 dX12_tray_18 cw_X12_117 (pX12_deny_ok G (dk - 1) (by omega) q2) rfl rfl t0 (zG Z) rfl (by decide) (zF Z (by omega)) (zO Z (by omega) (by decide)) (zM _) Z.2.1 Z.2.1 rfl rfl ?_
  replace hf := bz_i hf
  obtain ⟨z4, hf⟩ := hf
  cases hf
  exact J_zret Z.1 Z.2.2.2.2.2 (z_n z4) dX12_tray_21
def pX12_tray (g : MT) (h : CT) (this : Nat) (p1 : Int32) (p2 : Int32) (p3 : Int32) : Option ((Int32) × CT) := tg g this 11 (if (pX12_isTray p1) = 0 then pX12_tray_b16 g this p1 p2 p3  h else if (pX12_within p2 0 3) = 0 then pX12_tray_b16 g this p1 p2 p3  h else if p3 ≤ 60 then if 0 ≤ p3 then lt (hR h this 0) fun r5 => (nn r5 fun a5 => (tg g a5 28 (ix (gL g a5) p1 (lt (hR h a5 (Int32.toNatClampNeg p1)) fun r8 => (nn r8 fun a8 => (tg g a8 10 (bd (pX11_begin g h a8 p2 p3) fun h10 => (bd2 (pX12_agree g h10 this) fun x14 h12 => (bz x14 (some (x14, h12))))))))))) else bd2 (pX12_deny g h this 6) fun x18 h16 => (bz x18 (some (x18, h16))) else bd2 (pX12_deny g h this 5) fun x22 h20 => (bz x22 (some (x22, h20))))
set_option maxRecDepth 10000 in
set_option maxHeartbeats 4000000 in
theorem pX12_tray_ok (G : Gx) (dk : Nat) (hK : 2 ≤ dk) {g : MT} {h h0 : CT} {this : Nat} {p1 : Int32} {p2 : Int32} {p3 : Int32} {r0 : Int32} (hf : pX12_tray g h this p1 p2 p3 = some (r0, h0)) : Ctr G dk yX12_tray cX12_tray 4 (some .boolean) [va_rf (some this), .int p1, .int p2, .int p3] g h (some (.int r0)) g h0 := by
  refine Ctr.ofZ (lv := [(0, va_rf (some this)), (1, .int p1), (2, .int p2), (3, .int p3)]) (by decide +kernel) (by simp [cat_i, cat_l, cat_d, cat_rf]) rfl fun X Z => ?_
  unfold pX12_tray at hf
  replace hf := tg_i hf
  obtain ⟨t0, hf⟩ := hf
  refine J_iload_n Z.1 1 dX12_tray_0 rfl rfl ?_
  refine J_callS (as := [.int p1]) (rest := []) (sy := [.int (pX12_isTray p1)]) Z.1 dX12_tray_1 cw_X12_113 (pX12_isTray_ok G (dk - 1) (by omega) g h p1) (zG Z) rfl (by decide) (zF Z (by omega)) (zO Z (by omega) (by decide)) (zM _) Z.2.1 Z.2.1 rfl rfl ?_
  refine J_if_eq Z.1 16 dX12_tray_4 (by decide) (fun c1 => ?_) (fun c1 => ?_)
  · rw [if_pos c1] at hf
    refine J_lv [0] rfl ?_
    exact pX12_tray_b16_ok Z hK t0  _ hf
  · rw [if_neg c1] at hf
    refine J_iload_n Z.1 2 dX12_tray_7 rfl rfl ?_
    refine J_iconst Z.1 (v := 0) (by decide) dX12_tray_8 ?_
    refine J_iconst Z.1 (v := 3) (by decide) dX12_tray_9 ?_
    refine J_callS (as := [.int p2, .int 0, .int 3]) (rest := []) (sy := [.int (pX12_within p2 0 3)]) Z.1 dX12_tray_10 cw_X12_109 (pX12_within_ok G (dk - 1) (by omega) g h p2 0 3) (zG Z) rfl (by decide) (zF Z (by omega)) (zO Z (by omega) (by decide)) (zM _) Z.2.1 Z.2.1 rfl rfl ?_
    refine J_if_ne Z.1 22 dX12_tray_13 (by decide) (fun c2 => ?_) (fun c2 => ?_)
    · rw [if_neg c2] at hf
      refine J_iload_n Z.1 3 dX12_tray_22 rfl rfl ?_
      refine J_bipush Z.1 (v := 60) (by decide) dX12_tray_23 ?_
      refine J_icmp_le Z.1 34 dX12_tray_25 (by decide) (fun c3 => ?_) (fun c3 => ?_)
      · rw [if_pos c3] at hf
        refine J_iload_n Z.1 3 dX12_tray_34 rfl rfl ?_
        refine J_if_ge Z.1 45 dX12_tray_35 (by decide) (fun c4 => ?_) (fun c4 => ?_)
        · rw [if_pos c4] at hf
          refine J_aload_n Z.1 0 dX12_tray_45 rfl rfl ?_
          refine J_get (v := va_rf (hR h this 0)) Z.1 dX12_tray_46 fl_X12_11 t0 rfl ?_
          refine J_tr (fun r5 er5 => ?_)
          replace hf := lt_i hf r5 er5
          refine J_iload_n Z.1 1 dX12_tray_49 rfl rfl ?_
          replace hf := nn_i hf
          obtain ⟨a5, rfl, hf⟩ := hf
          replace hf := tg_i hf
          obtain ⟨t6, hf⟩ := hf
          replace hf := ix_i hf
          obtain ⟨i7, hf⟩ := hf
          refine J_aaload (t := 8) Z.1 dX12_tray_50 t6 rfl i7 ?_
          refine J_tr (fun r8 er8 => ?_)
          replace hf := lt_i hf r8 er8
          refine J_iload_n Z.1 2 dX12_tray_51 rfl rfl ?_
          refine J_iload_n Z.1 3 dX12_tray_52 rfl rfl ?_
          replace hf := nn_i hf
          obtain ⟨a8, rfl, hf⟩ := hf
          replace hf := tg_i hf
          obtain ⟨t9, hf⟩ := hf
          replace hf := bd_i hf
          obtain ⟨h10, q11, hf⟩ := hf
          refine J_callV (ci := 9) (as := [.int p2, .int p3]) (rest := []) (sy := []) Z.1 dX12_tray_53 cw_X12_120 (pX11_begin_ok G (dk - 1) (by omega) q11) rfl rfl t9 (zG Z) rfl (by decide) (zF Z (by omega)) (zO Z (by omega) (by decide)) (zM _) Z.2.1 Z.2.1 rfl rfl ?_
          refine J_aload_n Z.1 0 dX12_tray_56 rfl rfl ?_
          replace hf := bd2_i hf
          obtain ⟨x14, h12, q13, hf⟩ := hf
          refine J_callV (ci := 10) (as := []) (rest := []) (sy := [.int x14]) Z.1 dX12_tray_57 cw_X12_124 (pX12_agree_ok G (dk - 1) (by omega) q13) rfl rfl t0 (zG Z) rfl (by decide) (zF Z (by omega)) (zO Z (by omega) (by decide)) (zM _) Z.2.1 Z.2.1 rfl rfl ?_
          replace hf := bz_i hf
          obtain ⟨z15, hf⟩ := hf
          cases hf
          exact J_zret Z.1 Z.2.2.2.2.2 (z_n z15) dX12_tray_60
        · rw [if_neg c4] at hf
          refine J_aload_n Z.1 0 dX12_tray_38 rfl rfl ?_
          refine J_bipush Z.1 (v := 6) (by decide) dX12_tray_39 ?_
          replace hf := bd2_i hf
          obtain ⟨x18, h16, q17, hf⟩ := hf
          refine J_callV (ci := 10) (as := [.int 6]) (rest := []) (sy := [.int x18]) Z.1 dX12_tray_41 cw_X12_117 (pX12_deny_ok G (dk - 1) (by omega) q17) rfl rfl t0 (zG Z) rfl (by decide) (zF Z (by omega)) (zO Z (by omega) (by decide)) (zM _) Z.2.1 Z.2.1 rfl rfl ?_
          replace hf := bz_i hf
          obtain ⟨z19, hf⟩ := hf
          cases hf
          exact J_zret Z.1 Z.2.2.2.2.2 (z_n z19) dX12_tray_44
      · rw [if_neg c3] at hf
        refine J_aload_n Z.1 0 dX12_tray_28 rfl rfl ?_
        refine J_iconst Z.1 (v := 5) (by decide) dX12_tray_29 ?_
        replace hf := bd2_i hf
        obtain ⟨x22, h20, q21, hf⟩ := hf
        refine J_callV (ci := 10) (as := [.int 5]) (rest := []) (sy := [.int x22]) Z.1 dX12_tray_30 cw_X12_117 (pX12_deny_ok G (dk - 1) (by omega) q21) rfl rfl t0 (zG Z) rfl (by decide) (zF Z (by omega)) (zO Z (by omega) (by decide)) (zM _) Z.2.1 Z.2.1 rfl rfl ?_
        replace hf := bz_i hf
        obtain ⟨z23, hf⟩ := hf
        cases hf
        exact J_zret Z.1 Z.2.2.2.2.2 (z_n z23) dX12_tray_33
    · rw [if_pos c2] at hf
      refine J_lv [0] rfl ?_
      exact pX12_tray_b16_ok Z hK t0  _ hf
theorem dX12_trayTrouble_0 : decode cX12_trayTrouble 0 = .ok (.iload_n 1, 1) := by decide +kernel
theorem dX12_trayTrouble_1 : decode cX12_trayTrouble 1 = .ok (.invokestatic 113, 3) := by decide +kernel
theorem dX12_trayTrouble_4 : decode cX12_trayTrouble 4 = .ok (.ifCond .ne 5, 3) := by decide +kernel
theorem dX12_trayTrouble_7 : decode cX12_trayTrouble 7 = .ok (.iconst 1, 1) := by decide +kernel
theorem dX12_trayTrouble_8 : decode cX12_trayTrouble 8 = .ok (.ireturn, 1) := by decide +kernel
theorem dX12_trayTrouble_9 : decode cX12_trayTrouble 9 = .ok (.aload_n 0, 1) := by decide +kernel
theorem dX12_trayTrouble_10 : decode cX12_trayTrouble 10 = .ok (.getfield 11, 3) := by decide +kernel
theorem dX12_trayTrouble_13 : decode cX12_trayTrouble 13 = .ok (.iload_n 1, 1) := by decide +kernel
theorem dX12_trayTrouble_14 : decode cX12_trayTrouble 14 = .ok (.aaload, 1) := by decide +kernel
theorem dX12_trayTrouble_15 : decode cX12_trayTrouble 15 = .ok (.getfield 128, 3) := by decide +kernel
theorem dX12_trayTrouble_18 : decode cX12_trayTrouble 18 = .ok (.ifCond .ne 5, 3) := by decide +kernel
theorem dX12_trayTrouble_21 : decode cX12_trayTrouble 21 = .ok (.iconst 3, 1) := by decide +kernel
theorem dX12_trayTrouble_22 : decode cX12_trayTrouble 22 = .ok (.ireturn, 1) := by decide +kernel
theorem dX12_trayTrouble_23 : decode cX12_trayTrouble 23 = .ok (.aload_n 0, 1) := by decide +kernel
theorem dX12_trayTrouble_24 : decode cX12_trayTrouble 24 = .ok (.getfield 11, 3) := by decide +kernel
theorem dX12_trayTrouble_27 : decode cX12_trayTrouble 27 = .ok (.iload_n 1, 1) := by decide +kernel
theorem dX12_trayTrouble_28 : decode cX12_trayTrouble 28 = .ok (.aaload, 1) := by decide +kernel
theorem dX12_trayTrouble_29 : decode cX12_trayTrouble 29 = .ok (.iload_n 2, 1) := by decide +kernel
theorem dX12_trayTrouble_30 : decode cX12_trayTrouble 30 = .ok (.invokevirtual 132, 3) := by decide +kernel
theorem dX12_trayTrouble_33 : decode cX12_trayTrouble 33 = .ok (.ifCond .eq 7, 3) := by decide +kernel
theorem dX12_trayTrouble_36 : decode cX12_trayTrouble 36 = .ok (.iconst 0, 1) := by decide +kernel
theorem dX12_trayTrouble_37 : decode cX12_trayTrouble 37 = .ok (.goto 4, 3) := by decide +kernel
theorem dX12_trayTrouble_40 : decode cX12_trayTrouble 40 = .ok (.iconst 4, 1) := by decide +kernel
theorem dX12_trayTrouble_41 : decode cX12_trayTrouble 41 = .ok (.ireturn, 1) := by decide +kernel
def pX12_trayTrouble (g : MT) (h : CT) (this : Nat) (p1 : Int32) (p2 : Int32) : Option Int32 := tg g this 11 (if (pX12_isTray p1) = 0 then some 1 else lt (hR h this 0) fun r2 => (nn r2 fun a2 => (tg g a2 28 (ix (gL g a2) p1 (lt (hR h a2 (Int32.toNatClampNeg p1)) fun r5 => (nn r5 fun a5 => (tg g a5 10 (if (hI h a5 0) = 0 then some 3 else lt (hR h this 0) fun r8 => (nn r8 fun a8 => (tg g a8 28 (ix (gL g a8) p1 (lt (hR h a8 (Int32.toNatClampNeg p1)) fun r11 => (nn r11 fun a11 => (tg g a11 10 (bd (pX11_has g h a11 p2) fun x13 => (if x13 = 0 then some 4 else some 0))))))))))))))))
set_option maxRecDepth 10000 in
set_option maxHeartbeats 4000000 in
theorem pX12_trayTrouble_ok (G : Gx) (dk : Nat) (hK : 2 ≤ dk) {g : MT} {h : CT} {this : Nat} {p1 : Int32} {p2 : Int32} {r0 : Int32} (hf : pX12_trayTrouble g h this p1 p2 = some r0) : Ctr G dk yX12_trayTrouble cX12_trayTrouble 3 (some .int) [va_rf (some this), .int p1, .int p2] g h (some (.int r0)) g h := by
  refine Ctr.ofZ (lv := [(0, va_rf (some this)), (1, .int p1), (2, .int p2)]) (by decide +kernel) (by simp [cat_i, cat_l, cat_d, cat_rf]) rfl fun X Z => ?_
  unfold pX12_trayTrouble at hf
  replace hf := tg_i hf
  obtain ⟨t0, hf⟩ := hf
  refine J_iload_n Z.1 1 dX12_trayTrouble_0 rfl rfl ?_
  refine J_callS (as := [.int p1]) (rest := []) (sy := [.int (pX12_isTray p1)]) Z.1 dX12_trayTrouble_1 cw_X12_113 (pX12_isTray_ok G (dk - 1) (by omega) g h p1) (zG Z) rfl (by decide) (zF Z (by omega)) (zO Z (by omega) (by decide)) (zM _) Z.2.1 Z.2.1 rfl rfl ?_
  refine J_if_ne Z.1 9 dX12_trayTrouble_4 (by decide) (fun c1 => ?_) (fun c1 => ?_)
  · rw [if_neg c1] at hf
    refine J_aload_n Z.1 0 dX12_trayTrouble_9 rfl rfl ?_
    refine J_get (v := va_rf (hR h this 0)) Z.1 dX12_trayTrouble_10 fl_X12_11 t0 rfl ?_
    refine J_tr (fun r2 er2 => ?_)
    replace hf := lt_i hf r2 er2
    refine J_iload_n Z.1 1 dX12_trayTrouble_13 rfl rfl ?_
    replace hf := nn_i hf
    obtain ⟨a2, rfl, hf⟩ := hf
    replace hf := tg_i hf
    obtain ⟨t3, hf⟩ := hf
    replace hf := ix_i hf
    obtain ⟨i4, hf⟩ := hf
    refine J_aaload (t := 8) Z.1 dX12_trayTrouble_14 t3 rfl i4 ?_
    refine J_tr (fun r5 er5 => ?_)
    replace hf := lt_i hf r5 er5
    replace hf := nn_i hf
    obtain ⟨a5, rfl, hf⟩ := hf
    replace hf := tg_i hf
    obtain ⟨t6, hf⟩ := hf
    refine J_get (v := .int (hI h a5 0)) Z.1 dX12_trayTrouble_15 fl_X12_128 t6 rfl ?_
    refine J_if_ne Z.1 23 dX12_trayTrouble_18 (by decide) (fun c7 => ?_) (fun c7 => ?_)
    · rw [if_neg c7] at hf
      refine J_aload_n Z.1 0 dX12_trayTrouble_23 rfl rfl ?_
      refine J_get (v := va_rf (hR h this 0)) Z.1 dX12_trayTrouble_24 fl_X12_11 t0 rfl ?_
      refine J_tr (fun r8 er8 => ?_)
      replace hf := lt_i hf r8 er8
      refine J_iload_n Z.1 1 dX12_trayTrouble_27 rfl rfl ?_
      replace hf := nn_i hf
      obtain ⟨a8, rfl, hf⟩ := hf
      replace hf := tg_i hf
      obtain ⟨t9, hf⟩ := hf
      replace hf := ix_i hf
      obtain ⟨i10, hf⟩ := hf
      refine J_aaload (t := 8) Z.1 dX12_trayTrouble_28 t9 rfl i10 ?_
      refine J_tr (fun r11 er11 => ?_)
      replace hf := lt_i hf r11 er11
      refine J_iload_n Z.1 2 dX12_trayTrouble_29 rfl rfl ?_
      replace hf := nn_i hf
      obtain ⟨a11, rfl, hf⟩ := hf
      replace hf := tg_i hf
      obtain ⟨t12, hf⟩ := hf
      replace hf := bd_i hf
      obtain ⟨x13, q14, hf⟩ := hf
      refine J_callV (ci := 9) (as := [.int p2]) (rest := []) (sy := [.int x13]) Z.1 dX12_trayTrouble_30 cw_X12_132 (pX11_has_ok G (dk - 1) (by omega) q14) rfl rfl t12 (zG Z) rfl (by decide) (zF Z (by omega)) (zO Z (by omega) (by decide)) (zM _) Z.2.1 Z.2.1 rfl rfl ?_
      refine J_if_eq Z.1 40 dX12_trayTrouble_33 (by decide) (fun c15 => ?_) (fun c15 => ?_)
      · rw [if_pos c15] at hf
        refine J_iconst Z.1 (v := 4) (by decide) dX12_trayTrouble_40 ?_
        cases hf
        exact J_iret Z.1 Z.2.2.2.2.2 dX12_trayTrouble_41
      · rw [if_neg c15] at hf
        refine J_iconst Z.1 (v := 0) (by decide) dX12_trayTrouble_36 ?_
        refine J_goto Z.1 41 dX12_trayTrouble_37 (by decide) ?_
        cases hf
        exact J_iret Z.1 Z.2.2.2.2.2 dX12_trayTrouble_41
    · rw [if_pos c7] at hf
      refine J_iconst Z.1 (v := 3) (by decide) dX12_trayTrouble_21 ?_
      cases hf
      exact J_iret Z.1 Z.2.2.2.2.2 dX12_trayTrouble_22
  · rw [if_pos c1] at hf
    refine J_iconst Z.1 (v := 1) (by decide) dX12_trayTrouble_7 ?_
    cases hf
    exact J_iret Z.1 Z.2.2.2.2.2 dX12_trayTrouble_8
theorem dX12_read_0 : decode cX12_read 0 = .ok (.aload_n 0, 1) := by decide +kernel
theorem dX12_read_1 : decode cX12_read 1 = .ok (.iload_n 1, 1) := by decide +kernel
theorem dX12_read_2 : decode cX12_read 2 = .ok (.iload_n 2, 1) := by decide +kernel
theorem dX12_read_3 : decode cX12_read 3 = .ok (.invokevirtual 135, 3) := by decide +kernel
theorem dX12_read_6 : decode cX12_read 6 = .ok (.istore_n 3, 1) := by decide +kernel
theorem dX12_read_7 : decode cX12_read 7 = .ok (.iload_n 3, 1) := by decide +kernel
theorem dX12_read_8 : decode cX12_read 8 = .ok (.ifCond .eq 10, 3) := by decide +kernel
theorem dX12_read_11 : decode cX12_read 11 = .ok (.aload_n 0, 1) := by decide +kernel
theorem dX12_read_12 : decode cX12_read 12 = .ok (.iload_n 3, 1) := by decide +kernel
theorem dX12_read_13 : decode cX12_read 13 = .ok (.invokevirtual 143, 3) := by decide +kernel
theorem dX12_read_16 : decode cX12_read 16 = .ok (.i2l, 1) := by decide +kernel
theorem dX12_read_17 : decode cX12_read 17 = .ok (.lreturn, 1) := by decide +kernel
theorem dX12_read_18 : decode cX12_read 18 = .ok (.aload_n 0, 1) := by decide +kernel
theorem dX12_read_19 : decode cX12_read 19 = .ok (.iconst 0, 1) := by decide +kernel
theorem dX12_read_20 : decode cX12_read 20 = .ok (.putfield 90, 3) := by decide +kernel
theorem dX12_read_23 : decode cX12_read 23 = .ok (.aload_n 0, 1) := by decide +kernel
theorem dX12_read_24 : decode cX12_read 24 = .ok (.getfield 11, 3) := by decide +kernel
theorem dX12_read_27 : decode cX12_read 27 = .ok (.iload_n 1, 1) := by decide +kernel
theorem dX12_read_28 : decode cX12_read 28 = .ok (.aaload, 1) := by decide +kernel
theorem dX12_read_29 : decode cX12_read 29 = .ok (.iload_n 2, 1) := by decide +kernel
theorem dX12_read_30 : decode cX12_read 30 = .ok (.invokevirtual 146, 3) := by decide +kernel
theorem dX12_read_33 : decode cX12_read 33 = .ok (.lreturn, 1) := by decide +kernel
def pX12_read (g : MT) (h : CT) (this : Nat) (p1 : Int32) (p2 : Int32) : Option ((Int64) × CT) := tg g this 11 (bd (pX12_trayTrouble g h this p1 p2) fun x1 => (if x1 = 0 then lt (sI h this 19 0) fun h4 => (lt (hR h4 this 0) fun r5 => (nn r5 fun a5 => (tg g a5 28 (ix (gL g a5) p1 (lt (hR h4 a5 (Int32.toNatClampNeg p1)) fun r8 => (nn r8 fun a8 => (tg g a8 10 (bd (pX11_fetch g h4 a8 p2) fun x10 => (some (x10, h4)))))))))) else bd2 (pX12_refuse g h this x1) fun x14 h12 => (some ((Int32.toInt64 x14), h12))))
set_option maxRecDepth 10000 in
set_option maxHeartbeats 4000000 in
theorem pX12_read_ok (G : Gx) (dk : Nat) (hK : 3 ≤ dk) {g : MT} {h h0 : CT} {this : Nat} {p1 : Int32} {p2 : Int32} {r0 : Int64} (hf : pX12_read g h this p1 p2 = some (r0, h0)) : Ctr G dk yX12_read cX12_read 4 (some .long) [va_rf (some this), .int p1, .int p2] g h (some (.long r0)) g h0 := by
  refine Ctr.ofZ (lv := [(0, va_rf (some this)), (1, .int p1), (2, .int p2)]) (by decide +kernel) (by simp [cat_i, cat_l, cat_d, cat_rf]) rfl fun X Z => ?_
  unfold pX12_read at hf
  replace hf := tg_i hf
  obtain ⟨t0, hf⟩ := hf
  refine J_aload_n Z.1 0 dX12_read_0 rfl rfl ?_
  refine J_iload_n Z.1 1 dX12_read_1 rfl rfl ?_
  refine J_iload_n Z.1 2 dX12_read_2 rfl rfl ?_
  replace hf := bd_i hf
  obtain ⟨x1, q2, hf⟩ := hf
  refine J_callV (ci := 10) (as := [.int p1, .int p2]) (rest := []) (sy := [.int x1]) Z.1 dX12_read_3 cw_X12_135 (pX12_trayTrouble_ok G (dk - 1) (by omega) q2) rfl rfl t0 (zG Z) rfl (by decide) (zF Z (by omega)) (zO Z (by omega) (by decide)) (zM _) Z.2.1 Z.2.1 rfl rfl ?_
  refine J_istore_n Z.1 (lv2 := [(3, .int x1), (0, va_rf (some this)), (1, .int p1), (2, .int p2)]) dX12_read_6 rfl (zL Z (by decide)) rfl ?_
  refine J_iload_n Z.1 0 dX12_read_7 rfl rfl ?_
  refine J_if_eq Z.1 18 dX12_read_8 (by decide) (fun c3 => ?_) (fun c3 => ?_)
  · rw [if_pos c3] at hf
    refine J_aload_n Z.1 1 dX12_read_18 rfl rfl ?_
    refine J_iconst Z.1 (v := 0) (by decide) dX12_read_19 ?_
    refine J_putI Z.1 dX12_read_20 fl_X12_90 (fun q => by cases q) t0 rfl rfl (congrArg Value.int (hI_s _ _ _ _)) ?_
    refine J_th (fun h4 eh4 => ?_)
    replace hf := lt_i hf h4 eh4
    refine J_aload_n Z.1 1 dX12_read_23 rfl rfl ?_
    refine J_get (v := va_rf (hR h4 this 0)) Z.1 dX12_read_24 fl_X12_11 t0 rfl ?_
    refine J_tr (fun r5 er5 => ?_)
    replace hf := lt_i hf r5 er5
    refine J_iload_n Z.1 2 dX12_read_27 rfl rfl ?_
    replace hf := nn_i hf
    obtain ⟨a5, rfl, hf⟩ := hf
    replace hf := tg_i hf
    obtain ⟨t6, hf⟩ := hf
    replace hf := ix_i hf
    obtain ⟨i7, hf⟩ := hf
    refine J_aaload (t := 8) Z.1 dX12_read_28 t6 rfl i7 ?_
    refine J_tr (fun r8 er8 => ?_)
    replace hf := lt_i hf r8 er8
    refine J_iload_n Z.1 3 dX12_read_29 rfl rfl ?_
    replace hf := nn_i hf
    obtain ⟨a8, rfl, hf⟩ := hf
    replace hf := tg_i hf
    obtain ⟨t9, hf⟩ := hf
    replace hf := bd_i hf
    obtain ⟨x10, q11, hf⟩ := hf
    refine J_callV (ci := 9) (as := [.int p2]) (rest := []) (sy := [.long x10]) Z.1 dX12_read_30 cw_X12_146 (pX11_fetch_ok G (dk - 1) (by omega) q11) rfl rfl t9 (zG Z) rfl (by decide) (zF Z (by omega)) (zO Z (by omega) (by decide)) (zM _) Z.2.1 Z.2.1 rfl rfl ?_
    cases hf
    exact J_lret Z.1 Z.2.2.2.2.2 dX12_read_33
  · rw [if_neg c3] at hf
    refine J_aload_n Z.1 1 dX12_read_11 rfl rfl ?_
    refine J_iload_n Z.1 0 dX12_read_12 rfl rfl ?_
    replace hf := bd2_i hf
    obtain ⟨x14, h12, q13, hf⟩ := hf
    refine J_callV (ci := 10) (as := [.int x1]) (rest := []) (sy := [.int x14]) Z.1 dX12_read_13 cw_X12_143 (pX12_refuse_ok G (dk - 1) (by omega) q13) rfl rfl t0 (zG Z) rfl (by decide) (zF Z (by omega)) (zO Z (by omega) (by decide)) (zM _) Z.2.1 Z.2.1 rfl rfl ?_
    refine J_i2l Z.1 dX12_read_16 ?_
    cases hf
    exact J_lret Z.1 Z.2.2.2.2.2 dX12_read_17
theorem dX12_pour_0 : decode cX12_pour 0 = .ok (.iload_n 1, 1) := by decide +kernel
theorem dX12_pour_1 : decode cX12_pour 1 = .ok (.invokestatic 113, 3) := by decide +kernel
theorem dX12_pour_4 : decode cX12_pour 4 = .ok (.ifCond .eq 10, 3) := by decide +kernel
theorem dX12_pour_7 : decode cX12_pour 7 = .ok (.iload_n 3, 1) := by decide +kernel
theorem dX12_pour_8 : decode cX12_pour 8 = .ok (.invokestatic 113, 3) := by decide +kernel
theorem dX12_pour_11 : decode cX12_pour 11 = .ok (.ifCond .ne 9, 3) := by decide +kernel
theorem dX12_pour_14 : decode cX12_pour 14 = .ok (.aload_n 0, 1) := by decide +kernel
theorem dX12_pour_15 : decode cX12_pour 15 = .ok (.iconst 1, 1) := by decide +kernel
theorem dX12_pour_16 : decode cX12_pour 16 = .ok (.invokevirtual 117, 3) := by decide +kernel
theorem dX12_pour_19 : decode cX12_pour 19 = .ok (.ireturn, 1) := by decide +kernel
theorem dX12_pour_20 : decode cX12_pour 20 = .ok (.aload_n 0, 1) := by decide +kernel
theorem dX12_pour_21 : decode cX12_pour 21 = .ok (.getfield 11, 3) := by decide +kernel
theorem dX12_pour_24 : decode cX12_pour 24 = .ok (.iload_n 1, 1) := by decide +kernel
theorem dX12_pour_25 : decode cX12_pour 25 = .ok (.aaload, 1) := by decide +kernel
theorem dX12_pour_26 : decode cX12_pour 26 = .ok (.astore 6, 2) := by decide +kernel
theorem dX12_pour_28 : decode cX12_pour 28 = .ok (.aload_n 0, 1) := by decide +kernel
theorem dX12_pour_29 : decode cX12_pour 29 = .ok (.getfield 11, 3) := by decide +kernel
theorem dX12_pour_32 : decode cX12_pour 32 = .ok (.iload_n 3, 1) := by decide +kernel
theorem dX12_pour_33 : decode cX12_pour 33 = .ok (.aaload, 1) := by decide +kernel
theorem dX12_pour_34 : decode cX12_pour 34 = .ok (.astore 7, 2) := by decide +kernel
theorem dX12_pour_36 : decode cX12_pour 36 = .ok (.aload 6, 2) := by decide +kernel
theorem dX12_pour_38 : decode cX12_pour 38 = .ok (.getfield 128, 3) := by decide +kernel
theorem dX12_pour_41 : decode cX12_pour 41 = .ok (.ifCond .eq 11, 3) := by decide +kernel
theorem dX12_pour_44 : decode cX12_pour 44 = .ok (.aload 7, 2) := by decide +kernel
theorem dX12_pour_46 : decode cX12_pour 46 = .ok (.getfield 128, 3) := by decide +kernel
theorem dX12_pour_49 : decode cX12_pour 49 = .ok (.ifCond .ne 9, 3) := by decide +kernel
theorem dX12_pour_52 : decode cX12_pour 52 = .ok (.aload_n 0, 1) := by decide +kernel
theorem dX12_pour_53 : decode cX12_pour 53 = .ok (.iconst 3, 1) := by decide +kernel
theorem dX12_pour_54 : decode cX12_pour 54 = .ok (.invokevirtual 117, 3) := by decide +kernel
theorem dX12_pour_57 : decode cX12_pour 57 = .ok (.ireturn, 1) := by decide +kernel
theorem dX12_pour_58 : decode cX12_pour 58 = .ok (.aload 6, 2) := by decide +kernel
theorem dX12_pour_60 : decode cX12_pour 60 = .ok (.getfield 150, 3) := by decide +kernel
theorem dX12_pour_63 : decode cX12_pour 63 = .ok (.aload 7, 2) := by decide +kernel
theorem dX12_pour_65 : decode cX12_pour 65 = .ok (.getfield 150, 3) := by decide +kernel
theorem dX12_pour_68 : decode cX12_pour 68 = .ok (.if_icmp .eq 10, 3) := by decide +kernel
theorem dX12_pour_71 : decode cX12_pour 71 = .ok (.aload_n 0, 1) := by decide +kernel
theorem dX12_pour_72 : decode cX12_pour 72 = .ok (.bipush 11, 2) := by decide +kernel
theorem dX12_pour_74 : decode cX12_pour 74 = .ok (.invokevirtual 117, 3) := by decide +kernel
theorem dX12_pour_77 : decode cX12_pour 77 = .ok (.ireturn, 1) := by decide +kernel
theorem dX12_pour_78 : decode cX12_pour 78 = .ok (.iload 5, 2) := by decide +kernel
theorem dX12_pour_80 : decode cX12_pour 80 = .ok (.ifCond .ge 10, 3) := by decide +kernel
theorem dX12_pour_83 : decode cX12_pour 83 = .ok (.aload_n 0, 1) := by decide +kernel
theorem dX12_pour_84 : decode cX12_pour 84 = .ok (.bipush 6, 2) := by decide +kernel
theorem dX12_pour_86 : decode cX12_pour 86 = .ok (.invokevirtual 117, 3) := by decide +kernel
theorem dX12_pour_89 : decode cX12_pour 89 = .ok (.ireturn, 1) := by decide +kernel
theorem dX12_pour_90 : decode cX12_pour 90 = .ok (.aload 6, 2) := by decide +kernel
theorem dX12_pour_92 : decode cX12_pour 92 = .ok (.iload_n 2, 1) := by decide +kernel
theorem dX12_pour_93 : decode cX12_pour 93 = .ok (.iload 5, 2) := by decide +kernel
theorem dX12_pour_95 : decode cX12_pour 95 = .ok (.invokevirtual 153, 3) := by decide +kernel
theorem dX12_pour_98 : decode cX12_pour 98 = .ok (.ifCond .eq 15, 3) := by decide +kernel
theorem dX12_pour_101 : decode cX12_pour 101 = .ok (.aload 7, 2) := by decide +kernel
theorem dX12_pour_103 : decode cX12_pour 103 = .ok (.iload 4, 2) := by decide +kernel
theorem dX12_pour_105 : decode cX12_pour 105 = .ok (.iload 5, 2) := by decide +kernel
theorem dX12_pour_107 : decode cX12_pour 107 = .ok (.invokevirtual 153, 3) := by decide +kernel
theorem dX12_pour_110 : decode cX12_pour 110 = .ok (.ifCond .ne 9, 3) := by decide +kernel
theorem dX12_pour_113 : decode cX12_pour 113 = .ok (.aload_n 0, 1) := by decide +kernel
theorem dX12_pour_114 : decode cX12_pour 114 = .ok (.iconst 4, 1) := by decide +kernel
theorem dX12_pour_115 : decode cX12_pour 115 = .ok (.invokevirtual 117, 3) := by decide +kernel
theorem dX12_pour_118 : decode cX12_pour 118 = .ok (.ireturn, 1) := by decide +kernel
theorem dX12_pour_119 : decode cX12_pour 119 = .ok (.aload 6, 2) := by decide +kernel
theorem dX12_pour_121 : decode cX12_pour 121 = .ok (.getfield 157, 3) := by decide +kernel
theorem dX12_pour_124 : decode cX12_pour 124 = .ok (.iload_n 2, 1) := by decide +kernel
theorem dX12_pour_125 : decode cX12_pour 125 = .ok (.aload 7, 2) := by decide +kernel
theorem dX12_pour_127 : decode cX12_pour 127 = .ok (.getfield 157, 3) := by decide +kernel
theorem dX12_pour_130 : decode cX12_pour 130 = .ok (.iload 4, 2) := by decide +kernel
theorem dX12_pour_132 : decode cX12_pour 132 = .ok (.iload 5, 2) := by decide +kernel
theorem dX12_pour_134 : decode cX12_pour 134 = .ok (.invokestatic 161, 3) := by decide +kernel
theorem dX12_pour_137 : decode cX12_pour 137 = .ok (.aload_n 0, 1) := by decide +kernel
theorem dX12_pour_138 : decode cX12_pour 138 = .ok (.invokevirtual 124, 3) := by decide +kernel
theorem dX12_pour_141 : decode cX12_pour 141 = .ok (.ireturn, 1) := by decide +kernel
def pX12_pour_b14 (g : MT) (this : Nat) (p1 : Int32) (p2 : Int32) (p3 : Int32) (p4 : Int32) (p5 : Int32) (h : CT) : Option ((Int32) × CT) := bd2 (pX12_deny g h this 1) fun x3 h1 => (bz x3 (some (x3, h1)))
set_option maxRecDepth 10000 in
set_option maxHeartbeats 4000000 in
theorem pX12_pour_b14_ok {X : Cx} {G : Gx} {dk : Nat} {g : MT} {r0 : Int32} {h0 : CT} {this : Nat} {p1 : Int32} {p2 : Int32} {p3 : Int32} {p4 : Int32} {p5 : Int32} (Z : Zx X G cX12_pour RX12 8 dk (some .boolean) (some (.int r0)) g h0) (hK : 2 ≤ dk) (t0 : gT g this = 11) (h : CT) (hf : pX12_pour_b14 g this p1 p2 p3 p4 p5 h = some (r0, h0)) : J X g h 14 [(0, va_rf (some this))] [] := by
  unfold pX12_pour_b14 at hf
  refine J_aload_n Z.1 0 dX12_pour_14 rfl rfl ?_
  refine J_iconst Z.1 (v := 1) (by decide) dX12_pour_15 ?_
  replace hf := bd2_i hf
  obtain ⟨x3, h1, q2, hf⟩ := hf
  refine J_callV (ci := 10) (as := [.int 1]) (rest := []) (sy := [.int x3]) Z.1 dX12_pour_16 cw_X12_117 (pX12_deny_ok G (dk - 1) (by omega) q2) rfl rfl t0 (zG Z) rfl (by decide) (zF Z (by omega)) (zO Z (by omega) (by decide)) (zM _) Z.2.1 Z.2.1 rfl rfl ?_
  replace hf := bz_i hf
  obtain ⟨z4, hf⟩ := hf
  cases hf
  exact J_zret Z.1 Z.2.2.2.2.2 (z_n z4) dX12_pour_19
def pX12_pour_b52 (g : MT) (this : Nat) (p1 : Int32) (p2 : Int32) (p3 : Int32) (p4 : Int32) (p5 : Int32) (h : CT) : Option ((Int32) × CT) := bd2 (pX12_deny g h this 3) fun x3 h1 => (bz x3 (some (x3, h1)))
set_option maxRecDepth 10000 in
set_option maxHeartbeats 4000000 in
theorem pX12_pour_b52_ok {X : Cx} {G : Gx} {dk : Nat} {g : MT} {r0 : Int32} {h0 : CT} {this : Nat} {p1 : Int32} {p2 : Int32} {p3 : Int32} {p4 : Int32} {p5 : Int32} (Z : Zx X G cX12_pour RX12 8 dk (some .boolean) (some (.int r0)) g h0) (hK : 2 ≤ dk) (t0 : gT g this = 11) (h : CT) (hf : pX12_pour_b52 g this p1 p2 p3 p4 p5 h = some (r0, h0)) : J X g h 52 [(0, va_rf (some this))] [] := by
  unfold pX12_pour_b52 at hf
  refine J_aload_n Z.1 0 dX12_pour_52 rfl rfl ?_
  refine J_iconst Z.1 (v := 3) (by decide) dX12_pour_53 ?_
  replace hf := bd2_i hf
  obtain ⟨x3, h1, q2, hf⟩ := hf
  refine J_callV (ci := 10) (as := [.int 3]) (rest := []) (sy := [.int x3]) Z.1 dX12_pour_54 cw_X12_117 (pX12_deny_ok G (dk - 1) (by omega) q2) rfl rfl t0 (zG Z) rfl (by decide) (zF Z (by omega)) (zO Z (by omega) (by decide)) (zM _) Z.2.1 Z.2.1 rfl rfl ?_
  replace hf := bz_i hf
  obtain ⟨z4, hf⟩ := hf
  cases hf
  exact J_zret Z.1 Z.2.2.2.2.2 (z_n z4) dX12_pour_57
def pX12_pour_b113 (g : MT) (this : Nat) (p1 : Int32) (p2 : Int32) (p3 : Int32) (p4 : Int32) (p5 : Int32) (h : CT) : Option ((Int32) × CT) := bd2 (pX12_deny g h this 4) fun x3 h1 => (bz x3 (some (x3, h1)))
set_option maxRecDepth 10000 in
set_option maxHeartbeats 4000000 in
theorem pX12_pour_b113_ok {X : Cx} {G : Gx} {dk : Nat} {g : MT} {r0 : Int32} {h0 : CT} {this : Nat} {p1 : Int32} {p2 : Int32} {p3 : Int32} {p4 : Int32} {p5 : Int32} (Z : Zx X G cX12_pour RX12 8 dk (some .boolean) (some (.int r0)) g h0) (hK : 2 ≤ dk) (t0 : gT g this = 11) (h : CT) (hf : pX12_pour_b113 g this p1 p2 p3 p4 p5 h = some (r0, h0)) : J X g h 113 [(0, va_rf (some this))] [] := by
  unfold pX12_pour_b113 at hf
  refine J_aload_n Z.1 0 dX12_pour_113 rfl rfl ?_
  refine J_iconst Z.1 (v := 4) (by decide) dX12_pour_114 ?_
  replace hf := bd2_i hf
  obtain ⟨x3, h1, q2, hf⟩ := hf
  refine J_callV (ci := 10) (as := [.int 4]) (rest := []) (sy := [.int x3]) Z.1 dX12_pour_115 cw_X12_117 (pX12_deny_ok G (dk - 1) (by omega) q2) rfl rfl t0 (zG Z) rfl (by decide) (zF Z (by omega)) (zO Z (by omega) (by decide)) (zM _) Z.2.1 Z.2.1 rfl rfl ?_
  replace hf := bz_i hf
  obtain ⟨z4, hf⟩ := hf
  cases hf
  exact J_zret Z.1 Z.2.2.2.2.2 (z_n z4) dX12_pour_118
def pX12_pour (g : MT) (h : CT) (this : Nat) (p1 : Int32) (p2 : Int32) (p3 : Int32) (p4 : Int32) (p5 : Int32) : Option ((Int32) × CT) := tg g this 11 (if (pX12_isTray p1) = 0 then pX12_pour_b14 g this p1 p2 p3 p4 p5  h else if (pX12_isTray p3) = 0 then pX12_pour_b14 g this p1 p2 p3 p4 p5  h else lt (hR h this 0) fun r3 => (nn r3 fun a3 => (tg g a3 28 (ix (gL g a3) p1 (lt (hR h a3 (Int32.toNatClampNeg p1)) fun r6 => (lt (hR h this 0) fun r7 => (nn r7 fun a7 => (tg g a7 28 (ix (gL g a7) p3 (lt (hR h a7 (Int32.toNatClampNeg p3)) fun r10 => (nn r6 fun a6 => (tg g a6 10 (if (hI h a6 0) = 0 then pX12_pour_b52 g this p1 p2 p3 p4 p5  h else nn r10 fun a10 => (tg g a10 10 (if (hI h a10 0) = 0 then pX12_pour_b52 g this p1 p2 p3 p4 p5  h else if (hI h a6 1) = (hI h a10 1) then if 0 ≤ p5 then bd (pX11_holds g h a6 p2 p5) fun x17 => (if x17 = 0 then pX12_pour_b113 g this p1 p2 p3 p4 p5  h else bd (pX11_holds g h a10 p4 p5) fun x20 => (if x20 = 0 then pX12_pour_b113 g this p1 p2 p3 p4 p5  h else lt (hR h a6 3) fun r23 => (lt (hR h a10 3) fun r24 => (nn r23 fun a23 => (nn r24 fun a24 => (tg g a23 21 (tg g a24 21 (cpk p2 p4 p5 (gL g a23) (gL g a24) (lt (cpL h a23 a24 (Int32.toNatClampNeg p2) (Int32.toNatClampNeg p4) (Int32.toNatClampNeg p5)) fun h28 => (bd2 (pX12_agree g h28 this) fun x31 h29 => (bz x31 (some (x31, h29))))))))))))) else bd2 (pX12_deny g h this 6) fun x35 h33 => (bz x35 (some (x35, h33))) else bd2 (pX12_deny g h this 11) fun x39 h37 => (bz x39 (some (x39, h37))))))))))))))))))
set_option maxRecDepth 10000 in
set_option maxHeartbeats 4000000 in
theorem pX12_pour_ok (G : Gx) (dk : Nat) (hK : 2 ≤ dk) {g : MT} {h h0 : CT} {this : Nat} {p1 : Int32} {p2 : Int32} {p3 : Int32} {p4 : Int32} {p5 : Int32} {r0 : Int32} (hf : pX12_pour g h this p1 p2 p3 p4 p5 = some (r0, h0)) : Ctr G dk yX12_pour cX12_pour 8 (some .boolean) [va_rf (some this), .int p1, .int p2, .int p3, .int p4, .int p5] g h (some (.int r0)) g h0 := by
  refine Ctr.ofZ (lv := [(0, va_rf (some this)), (1, .int p1), (2, .int p2), (3, .int p3), (4, .int p4), (5, .int p5)]) (by decide +kernel) (by simp [cat_i, cat_l, cat_d, cat_rf]) rfl fun X Z => ?_
  unfold pX12_pour at hf
  replace hf := tg_i hf
  obtain ⟨t0, hf⟩ := hf
  refine J_iload_n Z.1 1 dX12_pour_0 rfl rfl ?_
  refine J_callS (as := [.int p1]) (rest := []) (sy := [.int (pX12_isTray p1)]) Z.1 dX12_pour_1 cw_X12_113 (pX12_isTray_ok G (dk - 1) (by omega) g h p1) (zG Z) rfl (by decide) (zF Z (by omega)) (zO Z (by omega) (by decide)) (zM _) Z.2.1 Z.2.1 rfl rfl ?_
  refine J_if_eq Z.1 14 dX12_pour_4 (by decide) (fun c1 => ?_) (fun c1 => ?_)
  · rw [if_pos c1] at hf
    refine J_lv [0] rfl ?_
    exact pX12_pour_b14_ok Z hK t0  _ hf
  · rw [if_neg c1] at hf
    refine J_iload_n Z.1 3 dX12_pour_7 rfl rfl ?_
    refine J_callS (as := [.int p3]) (rest := []) (sy := [.int (pX12_isTray p3)]) Z.1 dX12_pour_8 cw_X12_113 (pX12_isTray_ok G (dk - 1) (by omega) g h p3) (zG Z) rfl (by decide) (zF Z (by omega)) (zO Z (by omega) (by decide)) (zM _) Z.2.1 Z.2.1 rfl rfl ?_
    refine J_if_ne Z.1 20 dX12_pour_11 (by decide) (fun c2 => ?_) (fun c2 => ?_)
    · rw [if_neg c2] at hf
      refine J_aload_n Z.1 0 dX12_pour_20 rfl rfl ?_
      refine J_get (v := va_rf (hR h this 0)) Z.1 dX12_pour_21 fl_X12_11 t0 rfl ?_
      refine J_tr (fun r3 er3 => ?_)
      replace hf := lt_i hf r3 er3
      refine J_iload_n Z.1 1 dX12_pour_24 rfl rfl ?_
      replace hf := nn_i hf
      obtain ⟨a3, rfl, hf⟩ := hf
      replace hf := tg_i hf
      obtain ⟨t4, hf⟩ := hf
      replace hf := ix_i hf
      obtain ⟨i5, hf⟩ := hf
      refine J_aaload (t := 8) Z.1 dX12_pour_25 t4 rfl i5 ?_
      refine J_tr (fun r6 er6 => ?_)
      replace hf := lt_i hf r6 er6
      refine J_astore Z.1 (lv2 := [(6, va_rf r6), (0, va_rf (some this)), (1, .int p1), (2, .int p2), (3, .int p3), (4, .int p4), (5, .int p5)]) dX12_pour_26 (zL Z (by decide)) rfl ?_
      refine J_aload_n Z.1 1 dX12_pour_28 rfl rfl ?_
      refine J_get (v := va_rf (hR h this 0)) Z.1 dX12_pour_29 fl_X12_11 t0 rfl ?_
      refine J_tr (fun r7 er7 => ?_)
      replace hf := lt_i hf r7 er7
      refine J_iload_n Z.1 4 dX12_pour_32 rfl rfl ?_
      replace hf := nn_i hf
      obtain ⟨a7, rfl, hf⟩ := hf
      replace hf := tg_i hf
      obtain ⟨t8, hf⟩ := hf
      replace hf := ix_i hf
      obtain ⟨i9, hf⟩ := hf
      refine J_aaload (t := 8) Z.1 dX12_pour_33 t8 rfl i9 ?_
      refine J_tr (fun r10 er10 => ?_)
      replace hf := lt_i hf r10 er10
      refine J_astore Z.1 (lv2 := [(7, va_rf r10), (6, va_rf r6), (0, va_rf (some this)), (1, .int p1), (2, .int p2), (3, .int p3), (4, .int p4), (5, .int p5)]) dX12_pour_34 (zL Z (by decide)) (by simp [ls1, ls2, cat_i, cat_l, cat_d, cat_rf]) ?_
      refine J_aload Z.1 1 dX12_pour_36 rfl ?_
      replace hf := nn_i hf
      obtain ⟨a6, rfl, hf⟩ := hf
      replace hf := tg_i hf
      obtain ⟨t11, hf⟩ := hf
      refine J_get (v := .int (hI h a6 0)) Z.1 dX12_pour_38 fl_X12_128 t11 rfl ?_
      refine J_if_eq Z.1 52 dX12_pour_41 (by decide) (fun c12 => ?_) (fun c12 => ?_)
      · rw [if_pos c12] at hf
        refine J_lv [2] rfl ?_
        exact pX12_pour_b52_ok Z hK t0  _ hf
      · rw [if_neg c12] at hf
        refine J_aload Z.1 0 dX12_pour_44 rfl ?_
        replace hf := nn_i hf
        obtain ⟨a10, rfl, hf⟩ := hf
        replace hf := tg_i hf
        obtain ⟨t13, hf⟩ := hf
        refine J_get (v := .int (hI h a10 0)) Z.1 dX12_pour_46 fl_X12_128 t13 rfl ?_
        refine J_if_ne Z.1 58 dX12_pour_49 (by decide) (fun c14 => ?_) (fun c14 => ?_)
        · rw [if_neg c14] at hf
          refine J_aload Z.1 1 dX12_pour_58 rfl ?_
          refine J_get (v := .int (hI h a6 1)) Z.1 dX12_pour_60 fl_X12_150 t11 rfl ?_
          refine J_aload Z.1 0 dX12_pour_63 rfl ?_
          refine J_get (v := .int (hI h a10 1)) Z.1 dX12_pour_65 fl_X12_150 t13 rfl ?_
          refine J_icmp_eq Z.1 78 dX12_pour_68 (by decide) (fun c15 => ?_) (fun c15 => ?_)
          · rw [if_pos c15] at hf
            refine J_iload Z.1 7 dX12_pour_78 rfl ?_
            refine J_if_ge Z.1 90 dX12_pour_80 (by decide) (fun c16 => ?_) (fun c16 => ?_)
            · rw [if_pos c16] at hf
              refine J_aload Z.1 1 dX12_pour_90 rfl ?_
              refine J_iload_n Z.1 4 dX12_pour_92 rfl rfl ?_
              refine J_iload Z.1 7 dX12_pour_93 rfl ?_
              replace hf := bd_i hf
              obtain ⟨x17, q18, hf⟩ := hf
              refine J_callV (ci := 9) (as := [.int p2, .int p5]) (rest := []) (sy := [.int x17]) Z.1 dX12_pour_95 cw_X12_153 (pX11_holds_ok G (dk - 1) (by omega) q18) rfl rfl t11 (zG Z) rfl (by decide) (zF Z (by omega)) (zO Z (by omega) (by decide)) (zM _) Z.2.1 Z.2.1 rfl rfl ?_
              refine J_if_eq Z.1 113 dX12_pour_98 (by decide) (fun c19 => ?_) (fun c19 => ?_)
              · rw [if_pos c19] at hf
                refine J_lv [2] rfl ?_
                exact pX12_pour_b113_ok Z hK t0  _ hf
              · rw [if_neg c19] at hf
                refine J_aload Z.1 0 dX12_pour_101 rfl ?_
                refine J_iload Z.1 6 dX12_pour_103 rfl ?_
                refine J_iload Z.1 7 dX12_pour_105 rfl ?_
                replace hf := bd_i hf
                obtain ⟨x20, q21, hf⟩ := hf
                refine J_callV (ci := 9) (as := [.int p4, .int p5]) (rest := []) (sy := [.int x20]) Z.1 dX12_pour_107 cw_X12_153 (pX11_holds_ok G (dk - 1) (by omega) q21) rfl rfl t13 (zG Z) rfl (by decide) (zF Z (by omega)) (zO Z (by omega) (by decide)) (zM _) Z.2.1 Z.2.1 rfl rfl ?_
                refine J_if_ne Z.1 119 dX12_pour_110 (by decide) (fun c22 => ?_) (fun c22 => ?_)
                · rw [if_neg c22] at hf
                  refine J_aload Z.1 1 dX12_pour_119 rfl ?_
                  refine J_get (v := va_rf (hR h a6 3)) Z.1 dX12_pour_121 fl_X12_157 t11 rfl ?_
                  refine J_tr (fun r23 er23 => ?_)
                  replace hf := lt_i hf r23 er23
                  refine J_iload_n Z.1 4 dX12_pour_124 rfl rfl ?_
                  refine J_aload Z.1 0 dX12_pour_125 rfl ?_
                  refine J_get (v := va_rf (hR h a10 3)) Z.1 dX12_pour_127 fl_X12_157 t13 rfl ?_
                  refine J_tr (fun r24 er24 => ?_)
                  replace hf := lt_i hf r24 er24
                  refine J_iload Z.1 6 dX12_pour_130 rfl ?_
                  refine J_iload Z.1 7 dX12_pour_132 rfl ?_
                  replace hf := nn_i hf
                  obtain ⟨a23, rfl, hf⟩ := hf
                  replace hf := nn_i hf
                  obtain ⟨a24, rfl, hf⟩ := hf
                  replace hf := tg_i hf
                  obtain ⟨t25, hf⟩ := hf
                  replace hf := tg_i hf
                  obtain ⟨t26, hf⟩ := hf
                  replace hf := cpk_i hf
                  obtain ⟨z27, hf⟩ := hf
                  refine J_copyL Z.1 dX12_pour_134 q_629 q_631 q_630 q_150 t25 t26 z27.1 z27.2.1 z27.2.2.1 z27.2.2.2.1 z27.2.2.2.2 (zF Z (d := 0) (by omega)) (zO4 Z (by omega) (by simp [cat_i, cat_l, cat_d, cat_rf])) ?_
                  refine J_th (fun h28 eh28 => ?_)
                  replace hf := lt_i hf h28 eh28
                  refine J_aload_n Z.1 2 dX12_pour_137 rfl rfl ?_
                  replace hf := bd2_i hf
                  obtain ⟨x31, h29, q30, hf⟩ := hf
                  refine J_callV (ci := 10) (as := []) (rest := []) (sy := [.int x31]) Z.1 dX12_pour_138 cw_X12_124 (pX12_agree_ok G (dk - 1) (by omega) q30) rfl rfl t0 (zG Z) rfl (by decide) (zF Z (by omega)) (zO Z (by omega) (by decide)) (zM _) Z.2.1 Z.2.1 rfl rfl ?_
                  replace hf := bz_i hf
                  obtain ⟨z32, hf⟩ := hf
                  cases hf
                  exact J_zret Z.1 Z.2.2.2.2.2 (z_n z32) dX12_pour_141
                · rw [if_pos c22] at hf
                  refine J_lv [2] rfl ?_
                  exact pX12_pour_b113_ok Z hK t0  _ hf
            · rw [if_neg c16] at hf
              refine J_aload_n Z.1 2 dX12_pour_83 rfl rfl ?_
              refine J_bipush Z.1 (v := 6) (by decide) dX12_pour_84 ?_
              replace hf := bd2_i hf
              obtain ⟨x35, h33, q34, hf⟩ := hf
              refine J_callV (ci := 10) (as := [.int 6]) (rest := []) (sy := [.int x35]) Z.1 dX12_pour_86 cw_X12_117 (pX12_deny_ok G (dk - 1) (by omega) q34) rfl rfl t0 (zG Z) rfl (by decide) (zF Z (by omega)) (zO Z (by omega) (by decide)) (zM _) Z.2.1 Z.2.1 rfl rfl ?_
              replace hf := bz_i hf
              obtain ⟨z36, hf⟩ := hf
              cases hf
              exact J_zret Z.1 Z.2.2.2.2.2 (z_n z36) dX12_pour_89
          · rw [if_neg c15] at hf
            refine J_aload_n Z.1 2 dX12_pour_71 rfl rfl ?_
            refine J_bipush Z.1 (v := 11) (by decide) dX12_pour_72 ?_
            replace hf := bd2_i hf
            obtain ⟨x39, h37, q38, hf⟩ := hf
            refine J_callV (ci := 10) (as := [.int 11]) (rest := []) (sy := [.int x39]) Z.1 dX12_pour_74 cw_X12_117 (pX12_deny_ok G (dk - 1) (by omega) q38) rfl rfl t0 (zG Z) rfl (by decide) (zF Z (by omega)) (zO Z (by omega) (by decide)) (zM _) Z.2.1 Z.2.1 rfl rfl ?_
            replace hf := bz_i hf
            obtain ⟨z40, hf⟩ := hf
            cases hf
            exact J_zret Z.1 Z.2.2.2.2.2 (z_n z40) dX12_pour_77
        · rw [if_pos c14] at hf
          refine J_lv [2] rfl ?_
          exact pX12_pour_b52_ok Z hK t0  _ hf
    · rw [if_pos c2] at hf
      refine J_lv [0] rfl ?_
      exact pX12_pour_b14_ok Z hK t0  _ hf
theorem dX12_tapeInt_0 : decode cX12_tapeInt 0 = .ok (.bipush 24, 2) := by decide +kernel
theorem dX12_tapeInt_2 : decode cX12_tapeInt 2 = .ok (.istore_n 2, 1) := by decide +kernel
theorem dX12_tapeInt_3 : decode cX12_tapeInt 3 = .ok (.iload_n 2, 1) := by decide +kernel
theorem dX12_tapeInt_4 : decode cX12_tapeInt 4 = .ok (.ifCond .lt 42, 3) := by decide +kernel
theorem dX12_tapeInt_7 : decode cX12_tapeInt 7 = .ok (.aload_n 0, 1) := by decide +kernel
theorem dX12_tapeInt_8 : decode cX12_tapeInt 8 = .ok (.getfield 167, 3) := by decide +kernel
theorem dX12_tapeInt_11 : decode cX12_tapeInt 11 = .ok (.sipush 900, 3) := by decide +kernel
theorem dX12_tapeInt_14 : decode cX12_tapeInt 14 = .ok (.if_icmp .ge 32, 3) := by decide +kernel
theorem dX12_tapeInt_17 : decode cX12_tapeInt 17 = .ok (.aload_n 0, 1) := by decide +kernel
theorem dX12_tapeInt_18 : decode cX12_tapeInt 18 = .ok (.getfield 16, 3) := by decide +kernel
theorem dX12_tapeInt_21 : decode cX12_tapeInt 21 = .ok (.aload_n 0, 1) := by decide +kernel
theorem dX12_tapeInt_22 : decode cX12_tapeInt 22 = .ok (.getfield 167, 3) := by decide +kernel
theorem dX12_tapeInt_25 : decode cX12_tapeInt 25 = .ok (.iload_n 1, 1) := by decide +kernel
theorem dX12_tapeInt_26 : decode cX12_tapeInt 26 = .ok (.iload_n 2, 1) := by decide +kernel
theorem dX12_tapeInt_27 : decode cX12_tapeInt 27 = .ok (.ishr, 1) := by decide +kernel
theorem dX12_tapeInt_28 : decode cX12_tapeInt 28 = .ok (.i2b, 1) := by decide +kernel
theorem dX12_tapeInt_29 : decode cX12_tapeInt 29 = .ok (.bastore, 1) := by decide +kernel
theorem dX12_tapeInt_30 : decode cX12_tapeInt 30 = .ok (.aload_n 0, 1) := by decide +kernel
theorem dX12_tapeInt_31 : decode cX12_tapeInt 31 = .ok (.dup, 1) := by decide +kernel
theorem dX12_tapeInt_32 : decode cX12_tapeInt 32 = .ok (.getfield 167, 3) := by decide +kernel
theorem dX12_tapeInt_35 : decode cX12_tapeInt 35 = .ok (.iconst 1, 1) := by decide +kernel
theorem dX12_tapeInt_36 : decode cX12_tapeInt 36 = .ok (.iadd, 1) := by decide +kernel
theorem dX12_tapeInt_37 : decode cX12_tapeInt 37 = .ok (.putfield 167, 3) := by decide +kernel
theorem dX12_tapeInt_40 : decode cX12_tapeInt 40 = .ok (.iinc 2 (-8), 3) := by decide +kernel
theorem dX12_tapeInt_43 : decode cX12_tapeInt 43 = .ok (.goto (-40), 3) := by decide +kernel
theorem dX12_tapeInt_46 : decode cX12_tapeInt 46 = .ok (.return_, 1) := by decide +kernel
def pX12_tapeInt_b3 (g : MT) (this : Nat) (p1 : Int32) (k3 : Int32 → CT → Option CT) (l2 : Int32) (h : CT) : Option CT := if l2 < 0 then some h else if 900 ≤ (hI h this 2) then some h else lt (hR h this 1) fun r3 => (nn r3 fun a3 => (tg g a3 23 (ix (gL g a3) (hI h this 2) (lt (sI h a3 (Int32.toNatClampNeg (hI h this 2)) (vp_nar .byte (Int8.toInt32 (Int32.toInt8 (p1 >>> (l2 &&& 31)))))) fun h6 => (lt (sI h6 this 2 ((hI h6 this 2) + 1)) fun h7 => (lt (l2 + (-8)) fun x8 => (k3 x8 h7)))))))
set_option maxRecDepth 10000 in
set_option maxHeartbeats 4000000 in
theorem pX12_tapeInt_b3_ok {X : Cx} {G : Gx} {dk : Nat} {g : MT} {h0 : CT} {this : Nat} {p1 : Int32} {k3 : Int32 → CT → Option CT} (Z : Zx X G cX12_tapeInt RX12 3 dk none none g h0) (hK : 0 ≤ dk) (t0 : gT g this = 11) (hk3 : ∀ (l2 : Int32) (h : CT), k3 l2 h = some h0 → J X g h 3 [(0, va_rf (some this)), (1, .int p1), (2, .int l2)] []) (l2 : Int32) (h : CT) (hf : pX12_tapeInt_b3 g this p1 k3 l2 h = some h0) : J X g h 3 [(0, va_rf (some this)), (1, .int p1), (2, .int l2)] [] := by
  unfold pX12_tapeInt_b3 at hf
  refine J_iload_n Z.1 2 dX12_tapeInt_3 rfl rfl ?_
  refine J_if_lt Z.1 46 dX12_tapeInt_4 (by decide) (fun c1 => ?_) (fun c1 => ?_)
  · rw [if_pos c1] at hf
    cases hf
    exact J_vret Z.1 Z.2.2.2.2.2 dX12_tapeInt_46
  · rw [if_neg c1] at hf
    refine J_aload_n Z.1 0 dX12_tapeInt_7 rfl rfl ?_
    refine J_get (v := .int (hI h this 2)) Z.1 dX12_tapeInt_8 fl_X12_167 t0 rfl ?_
    refine J_sipush Z.1 (v := 900) (by decide) dX12_tapeInt_11 ?_
    refine J_icmp_ge Z.1 46 dX12_tapeInt_14 (by decide) (fun c2 => ?_) (fun c2 => ?_)
    · rw [if_pos c2] at hf
      cases hf
      exact J_vret Z.1 Z.2.2.2.2.2 dX12_tapeInt_46
    · rw [if_neg c2] at hf
      refine J_aload_n Z.1 0 dX12_tapeInt_17 rfl rfl ?_
      refine J_get (v := va_rf (hR h this 1)) Z.1 dX12_tapeInt_18 fl_X12_16 t0 rfl ?_
      refine J_tr (fun r3 er3 => ?_)
      replace hf := lt_i hf r3 er3
      refine J_aload_n Z.1 0 dX12_tapeInt_21 rfl rfl ?_
      refine J_get (v := .int (hI h this 2)) Z.1 dX12_tapeInt_22 fl_X12_167 t0 rfl ?_
      refine J_iload_n Z.1 1 dX12_tapeInt_25 rfl rfl ?_
      refine J_iload_n Z.1 2 dX12_tapeInt_26 rfl rfl ?_
      refine J_ishr Z.1 dX12_tapeInt_27 ?_
      refine J_i2b Z.1 dX12_tapeInt_28 ?_
      replace hf := nn_i hf
      obtain ⟨a3, rfl, hf⟩ := hf
      replace hf := tg_i hf
      obtain ⟨t4, hf⟩ := hf
      replace hf := ix_i hf
      obtain ⟨i5, hf⟩ := hf
      refine J_bastore Z.1 dX12_tapeInt_29 t4 i5 ?_
      refine J_th (fun h6 eh6 => ?_)
      replace hf := lt_i hf h6 eh6
      refine J_aload_n Z.1 0 dX12_tapeInt_30 rfl rfl ?_
      refine J_dup Z.1 dX12_tapeInt_31 rfl ?_
      refine J_get (v := .int (hI h6 this 2)) Z.1 dX12_tapeInt_32 fl_X12_167 t0 rfl ?_
      refine J_iconst Z.1 (v := 1) (by decide) dX12_tapeInt_35 ?_
      refine J_iadd Z.1 dX12_tapeInt_36 ?_
      refine J_putI Z.1 dX12_tapeInt_37 fl_X12_167 (fun q => by cases q) t0 rfl rfl (congrArg Value.int (hI_s _ _ _ _)) ?_
      refine J_th (fun h7 eh7 => ?_)
      replace hf := lt_i hf h7 eh7
      refine J_iinc Z.1 (v := (-8)) (lv2 := [(2, .int (l2 + (-8))), (0, va_rf (some this)), (1, .int p1)]) 2 dX12_tapeInt_40 rfl (by decide) (zL Z (by decide)) rfl ?_
      obtain ⟨x8, ex8⟩ : ∃ z, z = (l2 + (-8)) := ⟨_, rfl⟩
      replace hf := lt_i hf x8 ex8
      rw [← ex8]
      refine J_goto Z.1 3 dX12_tapeInt_43 (by decide) ?_
      refine J_lv [1, 2, 0] rfl ?_
      exact hk3 _ _ hf
def pX12_tapeInt_l3 (g : MT) (this : Nat) (p1 : Int32) : Nat → Int32 → CT → Option CT
  | 0, _, _ => none
  | n + 1, l2, h => pX12_tapeInt_b3 g this p1 (pX12_tapeInt_l3 g this p1 n) l2 h
theorem pX12_tapeInt_l3_ok {X : Cx} {G : Gx} {dk : Nat} {g : MT} {h0 : CT} {this : Nat} {p1 : Int32} (Z : Zx X G cX12_tapeInt RX12 3 dk none none g h0) (hK : 0 ≤ dk) (t0 : gT g this = 11) : ∀ (n : Nat) (l2 : Int32) (h : CT), pX12_tapeInt_l3 g this p1 n l2 h = some h0 → J X g h 3 [(0, va_rf (some this)), (1, .int p1), (2, .int l2)] [] := by
  intro n
  induction n with
  | zero => intro l2 h hf; cases hf
  | succ n ih => intro l2 h hf; exact pX12_tapeInt_b3_ok Z hK t0 ih l2 h hf
def pX12_tapeInt (g : MT) (h : CT) (this : Nat) (p1 : Int32) : Option CT := tg g this 11 (pX12_tapeInt_l3 g this p1  FUEL 24 h)
set_option maxRecDepth 10000 in
set_option maxHeartbeats 4000000 in
theorem pX12_tapeInt_ok (G : Gx) (dk : Nat) (hK : 0 ≤ dk) {g : MT} {h h0 : CT} {this : Nat} {p1 : Int32} (hf : pX12_tapeInt g h this p1 = some h0) : Ctr G dk yX12_tapeInt cX12_tapeInt 3 none [va_rf (some this), .int p1] g h none g h0 := by
  refine Ctr.ofZ (lv := [(0, va_rf (some this)), (1, .int p1)]) (by decide +kernel) (by simp [cat_i, cat_l, cat_d, cat_rf]) rfl fun X Z => ?_
  unfold pX12_tapeInt at hf
  replace hf := tg_i hf
  obtain ⟨t0, hf⟩ := hf
  refine J_bipush Z.1 (v := 24) (by decide) dX12_tapeInt_0 ?_
  refine J_istore_n Z.1 (lv2 := [(2, .int 24), (0, va_rf (some this)), (1, .int p1)]) dX12_tapeInt_2 rfl (zL Z (by decide)) rfl ?_
  refine J_lv [1, 2, 0] rfl ?_
  exact pX12_tapeInt_l3_ok Z hK t0  FUEL _ _ hf
theorem dX12_fault_0 : decode cX12_fault 0 = .ok (.iload_n 1, 1) := by decide +kernel
theorem dX12_fault_1 : decode cX12_fault 1 = .ok (.ifCond .ne 11, 3) := by decide +kernel
theorem dX12_fault_4 : decode cX12_fault 4 = .ok (.aload_n 0, 1) := by decide +kernel
theorem dX12_fault_5 : decode cX12_fault 5 = .ok (.getfield 23, 3) := by decide +kernel
theorem dX12_fault_8 : decode cX12_fault 8 = .ok (.getfield 187, 3) := by decide +kernel
theorem dX12_fault_11 : decode cX12_fault 11 = .ok (.ireturn, 1) := by decide +kernel
theorem dX12_fault_12 : decode cX12_fault 12 = .ok (.iload_n 1, 1) := by decide +kernel
theorem dX12_fault_13 : decode cX12_fault 13 = .ok (.iconst 1, 1) := by decide +kernel
theorem dX12_fault_14 : decode cX12_fault 14 = .ok (.if_icmp .ne 13, 3) := by decide +kernel
theorem dX12_fault_17 : decode cX12_fault 17 = .ok (.aload_n 0, 1) := by decide +kernel
theorem dX12_fault_18 : decode cX12_fault 18 = .ok (.getfield 23, 3) := by decide +kernel
theorem dX12_fault_21 : decode cX12_fault 21 = .ok (.getfield 190, 3) := by decide +kernel
theorem dX12_fault_24 : decode cX12_fault 24 = .ok (.goto 4, 3) := by decide +kernel
theorem dX12_fault_27 : decode cX12_fault 27 = .ok (.iconst (-1), 1) := by decide +kernel
theorem dX12_fault_28 : decode cX12_fault 28 = .ok (.ireturn, 1) := by decide +kernel
def pX12_fault (g : MT) (h : CT) (this : Nat) (p1 : Int32) : Option Int32 := tg g this 11 (if p1 = 0 then lt (hR h this 3) fun r5 => (nn r5 fun a5 => (tg g a5 5 (some (hI h a5 0)))) else if p1 = 1 then lt (hR h this 3) fun r3 => (nn r3 fun a3 => (tg g a3 5 (some (hI h a3 1)))) else some (-1))
set_option maxRecDepth 10000 in
set_option maxHeartbeats 4000000 in
theorem pX12_fault_ok (G : Gx) (dk : Nat) (hK : 0 ≤ dk) {g : MT} {h : CT} {this : Nat} {p1 : Int32} {r0 : Int32} (hf : pX12_fault g h this p1 = some r0) : Ctr G dk yX12_fault cX12_fault 2 (some .int) [va_rf (some this), .int p1] g h (some (.int r0)) g h := by
  refine Ctr.ofZ (lv := [(0, va_rf (some this)), (1, .int p1)]) (by decide +kernel) (by simp [cat_i, cat_l, cat_d, cat_rf]) rfl fun X Z => ?_
  unfold pX12_fault at hf
  replace hf := tg_i hf
  obtain ⟨t0, hf⟩ := hf
  refine J_iload_n Z.1 1 dX12_fault_0 rfl rfl ?_
  refine J_if_ne Z.1 12 dX12_fault_1 (by decide) (fun c1 => ?_) (fun c1 => ?_)
  · rw [if_neg c1] at hf
    refine J_iload_n Z.1 1 dX12_fault_12 rfl rfl ?_
    refine J_iconst Z.1 (v := 1) (by decide) dX12_fault_13 ?_
    refine J_icmp_ne Z.1 27 dX12_fault_14 (by decide) (fun c2 => ?_) (fun c2 => ?_)
    · rw [if_neg c2] at hf
      refine J_iconst Z.1 (v := (-1)) (by decide) dX12_fault_27 ?_
      cases hf
      exact J_iret Z.1 Z.2.2.2.2.2 dX12_fault_28
    · rw [if_pos c2] at hf
      refine J_aload_n Z.1 0 dX12_fault_17 rfl rfl ?_
      refine J_get (v := va_rf (hR h this 3)) Z.1 dX12_fault_18 fl_X12_23 t0 rfl ?_
      refine J_tr (fun r3 er3 => ?_)
      replace hf := lt_i hf r3 er3
      replace hf := nn_i hf
      obtain ⟨a3, rfl, hf⟩ := hf
      replace hf := tg_i hf
      obtain ⟨t4, hf⟩ := hf
      refine J_get (v := .int (hI h a3 1)) Z.1 dX12_fault_21 fl_X12_190 t4 rfl ?_
      refine J_goto Z.1 28 dX12_fault_24 (by decide) ?_
      cases hf
      exact J_iret Z.1 Z.2.2.2.2.2 dX12_fault_28
  · rw [if_pos c1] at hf
    refine J_aload_n Z.1 0 dX12_fault_4 rfl rfl ?_
    refine J_get (v := va_rf (hR h this 3)) Z.1 dX12_fault_5 fl_X12_23 t0 rfl ?_
    refine J_tr (fun r5 er5 => ?_)
    replace hf := lt_i hf r5 er5
    replace hf := nn_i hf
    obtain ⟨a5, rfl, hf⟩ := hf
    replace hf := tg_i hf
    obtain ⟨t6, hf⟩ := hf
    refine J_get (v := .int (hI h a5 0)) Z.1 dX12_fault_8 fl_X12_187 t6 rfl ?_
    cases hf
    exact J_iret Z.1 Z.2.2.2.2.2 dX12_fault_11
theorem dX12_many_0 : decode cX12_many 0 = .ok (.iload_n 1, 1) := by decide +kernel
theorem dX12_many_1 : decode cX12_many 1 = .ok (.tableswitch 114 0 5 #[39, 51, 63, 75, 87, 102], 39) := by decide +kernel
theorem dX12_many_40 : decode cX12_many 40 = .ok (.aload_n 0, 1) := by decide +kernel
theorem dX12_many_41 : decode cX12_many 41 = .ok (.aload_n 0, 1) := by decide +kernel
theorem dX12_many_42 : decode cX12_many 42 = .ok (.getfield 30, 3) := by decide +kernel
theorem dX12_many_45 : decode cX12_many 45 = .ok (.getfield 193, 3) := by decide +kernel
theorem dX12_many_48 : decode cX12_many 48 = .ok (.invokevirtual 105, 3) := by decide +kernel
theorem dX12_many_51 : decode cX12_many 51 = .ok (.ireturn, 1) := by decide +kernel
theorem dX12_many_52 : decode cX12_many 52 = .ok (.aload_n 0, 1) := by decide +kernel
theorem dX12_many_53 : decode cX12_many 53 = .ok (.aload_n 0, 1) := by decide +kernel
theorem dX12_many_54 : decode cX12_many 54 = .ok (.getfield 30, 3) := by decide +kernel
theorem dX12_many_57 : decode cX12_many 57 = .ok (.getfield 196, 3) := by decide +kernel
theorem dX12_many_60 : decode cX12_many 60 = .ok (.invokevirtual 105, 3) := by decide +kernel
theorem dX12_many_63 : decode cX12_many 63 = .ok (.ireturn, 1) := by decide +kernel
theorem dX12_many_64 : decode cX12_many 64 = .ok (.aload_n 0, 1) := by decide +kernel
theorem dX12_many_65 : decode cX12_many 65 = .ok (.aload_n 0, 1) := by decide +kernel
theorem dX12_many_66 : decode cX12_many 66 = .ok (.getfield 30, 3) := by decide +kernel
theorem dX12_many_69 : decode cX12_many 69 = .ok (.getfield 199, 3) := by decide +kernel
theorem dX12_many_72 : decode cX12_many 72 = .ok (.invokevirtual 105, 3) := by decide +kernel
theorem dX12_many_75 : decode cX12_many 75 = .ok (.ireturn, 1) := by decide +kernel
theorem dX12_many_76 : decode cX12_many 76 = .ok (.aload_n 0, 1) := by decide +kernel
theorem dX12_many_77 : decode cX12_many 77 = .ok (.aload_n 0, 1) := by decide +kernel
theorem dX12_many_78 : decode cX12_many 78 = .ok (.getfield 30, 3) := by decide +kernel
theorem dX12_many_81 : decode cX12_many 81 = .ok (.getfield 202, 3) := by decide +kernel
theorem dX12_many_84 : decode cX12_many 84 = .ok (.invokevirtual 105, 3) := by decide +kernel
theorem dX12_many_87 : decode cX12_many 87 = .ok (.ireturn, 1) := by decide +kernel
theorem dX12_many_88 : decode cX12_many 88 = .ok (.aload_n 0, 1) := by decide +kernel
theorem dX12_many_89 : decode cX12_many 89 = .ok (.aload_n 0, 1) := by decide +kernel
theorem dX12_many_90 : decode cX12_many 90 = .ok (.getfield 30, 3) := by decide +kernel
theorem dX12_many_93 : decode cX12_many 93 = .ok (.getfield 178, 3) := by decide +kernel
theorem dX12_many_96 : decode cX12_many 96 = .ok (.getfield 184, 3) := by decide +kernel
theorem dX12_many_99 : decode cX12_many 99 = .ok (.invokevirtual 105, 3) := by decide +kernel
theorem dX12_many_102 : decode cX12_many 102 = .ok (.ireturn, 1) := by decide +kernel
theorem dX12_many_103 : decode cX12_many 103 = .ok (.aload_n 0, 1) := by decide +kernel
theorem dX12_many_104 : decode cX12_many 104 = .ok (.aload_n 0, 1) := by decide +kernel
theorem dX12_many_105 : decode cX12_many 105 = .ok (.getfield 30, 3) := by decide +kernel
theorem dX12_many_108 : decode cX12_many 108 = .ok (.invokevirtual 205, 3) := by decide +kernel
theorem dX12_many_111 : decode cX12_many 111 = .ok (.invokevirtual 105, 3) := by decide +kernel
theorem dX12_many_114 : decode cX12_many 114 = .ok (.ireturn, 1) := by decide +kernel
theorem dX12_many_115 : decode cX12_many 115 = .ok (.aload_n 0, 1) := by decide +kernel
theorem dX12_many_116 : decode cX12_many 116 = .ok (.iconst 5, 1) := by decide +kernel
theorem dX12_many_117 : decode cX12_many 117 = .ok (.invokevirtual 143, 3) := by decide +kernel
theorem dX12_many_120 : decode cX12_many 120 = .ok (.ireturn, 1) := by decide +kernel
def pX12_many (g : MT) (h : CT) (this : Nat) (p1 : Int32) : Option ((Int32) × CT) := tg g this 11 (if p1 = 0 then lt (hR h this 4) fun r2 => (nn r2 fun a2 => (tg g a2 3 (bd2 (pX12_answer g h this (hI h a2 5)) fun x6 h4 => (some (x6, h4))))) else (if p1 = 1 then lt (hR h this 4) fun r8 => (nn r8 fun a8 => (tg g a8 3 (bd2 (pX12_answer g h this (hI h a8 6)) fun x12 h10 => (some (x12, h10))))) else (if p1 = 2 then lt (hR h this 4) fun r14 => (nn r14 fun a14 => (tg g a14 3 (bd2 (pX12_answer g h this (hI h a14 7)) fun x18 h16 => (some (x18, h16))))) else (if p1 = 3 then lt (hR h this 4) fun r20 => (nn r20 fun a20 => (tg g a20 3 (bd2 (pX12_answer g h this (hI h a20 4)) fun x24 h22 => (some (x24, h22))))) else (if p1 = 4 then lt (hR h this 4) fun r26 => (nn r26 fun a26 => (tg g a26 3 (lt (hR h a26 8) fun r28 => (nn r28 fun a28 => (tg g a28 6 (bd2 (pX12_answer g h this (hI h a28 1)) fun x32 h30 => (some (x32, h30)))))))) else (if p1 = 5 then lt (hR h this 4) fun r34 => (nn r34 fun a34 => (tg g a34 3 (bd (pX3_rowsThere g h a34) fun x36 => (bd2 (pX12_answer g h this x36) fun x40 h38 => (some (x40, h38)))))) else (bd2 (pX12_refuse g h this 5) fun x43 h41 => (some (x43, h41)))))))))
set_option maxRecDepth 10000 in
set_option maxHeartbeats 4000000 in
theorem pX12_many_ok (G : Gx) (dk : Nat) (hK : 1 ≤ dk) {g : MT} {h h0 : CT} {this : Nat} {p1 : Int32} {r0 : Int32} (hf : pX12_many g h this p1 = some (r0, h0)) : Ctr G dk yX12_many cX12_many 2 (some .int) [va_rf (some this), .int p1] g h (some (.int r0)) g h0 := by
  refine Ctr.ofZ (lv := [(0, va_rf (some this)), (1, .int p1)]) (by decide +kernel) (by simp [cat_i, cat_l, cat_d, cat_rf]) rfl fun X Z => ?_
  unfold pX12_many at hf
  replace hf := tg_i hf
  obtain ⟨t0, hf⟩ := hf
  refine J_iload_n Z.1 1 dX12_many_0 rfl rfl ?_
  by_cases c1 : p1 = 0
  · rw [if_pos c1] at hf
    refine J_tabIn (off := 39) Z.1 40 dX12_many_1 (by rw [c1]; decide) (by rw [c1]; decide) (by rw [c1]; decide) (by decide) ?_
    refine J_aload_n Z.1 0 dX12_many_40 rfl rfl ?_
    refine J_aload_n Z.1 0 dX12_many_41 rfl rfl ?_
    refine J_get (v := va_rf (hR h this 4)) Z.1 dX12_many_42 fl_X12_30 t0 rfl ?_
    refine J_tr (fun r2 er2 => ?_)
    replace hf := lt_i hf r2 er2
    replace hf := nn_i hf
    obtain ⟨a2, rfl, hf⟩ := hf
    replace hf := tg_i hf
    obtain ⟨t3, hf⟩ := hf
    refine J_get (v := .int (hI h a2 5)) Z.1 dX12_many_45 fl_X12_193 t3 rfl ?_
    replace hf := bd2_i hf
    obtain ⟨x6, h4, q5, hf⟩ := hf
    refine J_callV (ci := 10) (as := [.int (hI h a2 5)]) (rest := []) (sy := [.int x6]) Z.1 dX12_many_48 cw_X12_105 (pX12_answer_ok G (dk - 1) (by omega) q5) rfl rfl t0 (zG Z) rfl (by decide) (zF Z (by omega)) (zO Z (by omega) (by decide)) (zM _) Z.2.1 Z.2.1 rfl rfl ?_
    cases hf
    exact J_iret Z.1 Z.2.2.2.2.2 dX12_many_51
  rw [if_neg c1] at hf
  by_cases c7 : p1 = 1
  · rw [if_pos c7] at hf
    refine J_tabIn (off := 51) Z.1 52 dX12_many_1 (by rw [c7]; decide) (by rw [c7]; decide) (by rw [c7]; decide) (by decide) ?_
    refine J_aload_n Z.1 0 dX12_many_52 rfl rfl ?_
    refine J_aload_n Z.1 0 dX12_many_53 rfl rfl ?_
    refine J_get (v := va_rf (hR h this 4)) Z.1 dX12_many_54 fl_X12_30 t0 rfl ?_
    refine J_tr (fun r8 er8 => ?_)
    replace hf := lt_i hf r8 er8
    replace hf := nn_i hf
    obtain ⟨a8, rfl, hf⟩ := hf
    replace hf := tg_i hf
    obtain ⟨t9, hf⟩ := hf
    refine J_get (v := .int (hI h a8 6)) Z.1 dX12_many_57 fl_X12_196 t9 rfl ?_
    replace hf := bd2_i hf
    obtain ⟨x12, h10, q11, hf⟩ := hf
    refine J_callV (ci := 10) (as := [.int (hI h a8 6)]) (rest := []) (sy := [.int x12]) Z.1 dX12_many_60 cw_X12_105 (pX12_answer_ok G (dk - 1) (by omega) q11) rfl rfl t0 (zG Z) rfl (by decide) (zF Z (by omega)) (zO Z (by omega) (by decide)) (zM _) Z.2.1 Z.2.1 rfl rfl ?_
    cases hf
    exact J_iret Z.1 Z.2.2.2.2.2 dX12_many_63
  rw [if_neg c7] at hf
  by_cases c13 : p1 = 2
  · rw [if_pos c13] at hf
    refine J_tabIn (off := 63) Z.1 64 dX12_many_1 (by rw [c13]; decide) (by rw [c13]; decide) (by rw [c13]; decide) (by decide) ?_
    refine J_aload_n Z.1 0 dX12_many_64 rfl rfl ?_
    refine J_aload_n Z.1 0 dX12_many_65 rfl rfl ?_
    refine J_get (v := va_rf (hR h this 4)) Z.1 dX12_many_66 fl_X12_30 t0 rfl ?_
    refine J_tr (fun r14 er14 => ?_)
    replace hf := lt_i hf r14 er14
    replace hf := nn_i hf
    obtain ⟨a14, rfl, hf⟩ := hf
    replace hf := tg_i hf
    obtain ⟨t15, hf⟩ := hf
    refine J_get (v := .int (hI h a14 7)) Z.1 dX12_many_69 fl_X12_199 t15 rfl ?_
    replace hf := bd2_i hf
    obtain ⟨x18, h16, q17, hf⟩ := hf
    refine J_callV (ci := 10) (as := [.int (hI h a14 7)]) (rest := []) (sy := [.int x18]) Z.1 dX12_many_72 cw_X12_105 (pX12_answer_ok G (dk - 1) (by omega) q17) rfl rfl t0 (zG Z) rfl (by decide) (zF Z (by omega)) (zO Z (by omega) (by decide)) (zM _) Z.2.1 Z.2.1 rfl rfl ?_
    cases hf
    exact J_iret Z.1 Z.2.2.2.2.2 dX12_many_75
  rw [if_neg c13] at hf
  by_cases c19 : p1 = 3
  · rw [if_pos c19] at hf
    refine J_tabIn (off := 75) Z.1 76 dX12_many_1 (by rw [c19]; decide) (by rw [c19]; decide) (by rw [c19]; decide) (by decide) ?_
    refine J_aload_n Z.1 0 dX12_many_76 rfl rfl ?_
    refine J_aload_n Z.1 0 dX12_many_77 rfl rfl ?_
    refine J_get (v := va_rf (hR h this 4)) Z.1 dX12_many_78 fl_X12_30 t0 rfl ?_
    refine J_tr (fun r20 er20 => ?_)
    replace hf := lt_i hf r20 er20
    replace hf := nn_i hf
    obtain ⟨a20, rfl, hf⟩ := hf
    replace hf := tg_i hf
    obtain ⟨t21, hf⟩ := hf
    refine J_get (v := .int (hI h a20 4)) Z.1 dX12_many_81 fl_X12_202 t21 rfl ?_
    replace hf := bd2_i hf
    obtain ⟨x24, h22, q23, hf⟩ := hf
    refine J_callV (ci := 10) (as := [.int (hI h a20 4)]) (rest := []) (sy := [.int x24]) Z.1 dX12_many_84 cw_X12_105 (pX12_answer_ok G (dk - 1) (by omega) q23) rfl rfl t0 (zG Z) rfl (by decide) (zF Z (by omega)) (zO Z (by omega) (by decide)) (zM _) Z.2.1 Z.2.1 rfl rfl ?_
    cases hf
    exact J_iret Z.1 Z.2.2.2.2.2 dX12_many_87
  rw [if_neg c19] at hf
  by_cases c25 : p1 = 4
  · rw [if_pos c25] at hf
    refine J_tabIn (off := 87) Z.1 88 dX12_many_1 (by rw [c25]; decide) (by rw [c25]; decide) (by rw [c25]; decide) (by decide) ?_
    refine J_aload_n Z.1 0 dX12_many_88 rfl rfl ?_
    refine J_aload_n Z.1 0 dX12_many_89 rfl rfl ?_
    refine J_get (v := va_rf (hR h this 4)) Z.1 dX12_many_90 fl_X12_30 t0 rfl ?_
    refine J_tr (fun r26 er26 => ?_)
    replace hf := lt_i hf r26 er26
    replace hf := nn_i hf
    obtain ⟨a26, rfl, hf⟩ := hf
    replace hf := tg_i hf
    obtain ⟨t27, hf⟩ := hf
    refine J_get (v := va_rf (hR h a26 8)) Z.1 dX12_many_93 fl_X12_178 t27 rfl ?_
    refine J_tr (fun r28 er28 => ?_)
    replace hf := lt_i hf r28 er28
    replace hf := nn_i hf
    obtain ⟨a28, rfl, hf⟩ := hf
    replace hf := tg_i hf
    obtain ⟨t29, hf⟩ := hf
    refine J_get (v := .int (hI h a28 1)) Z.1 dX12_many_96 fl_X12_184 t29 rfl ?_
    replace hf := bd2_i hf
    obtain ⟨x32, h30, q31, hf⟩ := hf
    refine J_callV (ci := 10) (as := [.int (hI h a28 1)]) (rest := []) (sy := [.int x32]) Z.1 dX12_many_99 cw_X12_105 (pX12_answer_ok G (dk - 1) (by omega) q31) rfl rfl t0 (zG Z) rfl (by decide) (zF Z (by omega)) (zO Z (by omega) (by decide)) (zM _) Z.2.1 Z.2.1 rfl rfl ?_
    cases hf
    exact J_iret Z.1 Z.2.2.2.2.2 dX12_many_102
  rw [if_neg c25] at hf
  by_cases c33 : p1 = 5
  · rw [if_pos c33] at hf
    refine J_tabIn (off := 102) Z.1 103 dX12_many_1 (by rw [c33]; decide) (by rw [c33]; decide) (by rw [c33]; decide) (by decide) ?_
    refine J_aload_n Z.1 0 dX12_many_103 rfl rfl ?_
    refine J_aload_n Z.1 0 dX12_many_104 rfl rfl ?_
    refine J_get (v := va_rf (hR h this 4)) Z.1 dX12_many_105 fl_X12_30 t0 rfl ?_
    refine J_tr (fun r34 er34 => ?_)
    replace hf := lt_i hf r34 er34
    replace hf := nn_i hf
    obtain ⟨a34, rfl, hf⟩ := hf
    replace hf := tg_i hf
    obtain ⟨t35, hf⟩ := hf
    replace hf := bd_i hf
    obtain ⟨x36, q37, hf⟩ := hf
    refine J_callV (ci := 2) (as := []) (rest := [va_rf (some this)]) (sy := [.int x36, va_rf (some this)]) Z.1 dX12_many_108 cw_X12_205 (pX3_rowsThere_ok G (dk - 1) (by omega) q37) rfl rfl t35 (zG Z) rfl (by simp [cat_i, cat_l, cat_d, cat_rf]) (zF Z (by omega)) (zO Z (by omega) (by decide)) (zM _) Z.2.1 Z.2.1 rfl rfl ?_
    replace hf := bd2_i hf
    obtain ⟨x40, h38, q39, hf⟩ := hf
    refine J_callV (ci := 10) (as := [.int x36]) (rest := []) (sy := [.int x40]) Z.1 dX12_many_111 cw_X12_105 (pX12_answer_ok G (dk - 1) (by omega) q39) rfl rfl t0 (zG Z) rfl (by decide) (zF Z (by omega)) (zO Z (by omega) (by decide)) (zM _) Z.2.1 Z.2.1 rfl rfl ?_
    cases hf
    exact J_iret Z.1 Z.2.2.2.2.2 dX12_many_114
  rw [if_neg c33] at hf
  have hout : p1.toInt < 0 ∨ 5 < p1.toInt := by
    have c1q := lv_neT c1 (a := 0) (by decide)
    have c7q := lv_neT c7 (a := 1) (by decide)
    have c13q := lv_neT c13 (a := 2) (by decide)
    have c19q := lv_neT c19 (a := 3) (by decide)
    have c25q := lv_neT c25 (a := 4) (by decide)
    have c33q := lv_neT c33 (a := 5) (by decide)
    omega
  refine J_tabOut Z.1 115 dX12_many_1 hout (by decide) ?_
  refine J_aload_n Z.1 0 dX12_many_115 rfl rfl ?_
  refine J_iconst Z.1 (v := 5) (by decide) dX12_many_116 ?_
  replace hf := bd2_i hf
  obtain ⟨x43, h41, q42, hf⟩ := hf
  refine J_callV (ci := 10) (as := [.int 5]) (rest := []) (sy := [.int x43]) Z.1 dX12_many_117 cw_X12_143 (pX12_refuse_ok G (dk - 1) (by omega) q42) rfl rfl t0 (zG Z) rfl (by decide) (zF Z (by omega)) (zO Z (by omega) (by decide)) (zM _) Z.2.1 Z.2.1 rfl rfl ?_
  cases hf
  exact J_iret Z.1 Z.2.2.2.2.2 dX12_many_120
