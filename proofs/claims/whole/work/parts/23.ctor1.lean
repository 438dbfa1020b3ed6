/-! written by wip/whole/gen.py out of the printed bytecode -/
theorem dX13_init_0 : decode cX13_init 0 = .ok (.aload_n 0, 1) := by decide +kernel
theorem dX13_init_1 : decode cX13_init 1 = .ok (.invokespecial 1, 3) := by decide +kernel
theorem dX13_init_4 : decode cX13_init 4 = .ok (.aload_n 0, 1) := by decide +kernel
theorem dX13_init_5 : decode cX13_init 5 = .ok (.iconst 4, 1) := by decide +kernel
theorem dX13_init_6 : decode cX13_init 6 = .ok (.newarray .int, 2) := by decide +kernel
theorem dX13_init_8 : decode cX13_init 8 = .ok (.putfield 7, 3) := by decide +kernel
theorem dX13_init_11 : decode cX13_init 11 = .ok (.aload_n 0, 1) := by decide +kernel
theorem dX13_init_12 : decode cX13_init 12 = .ok (.iconst 4, 1) := by decide +kernel
theorem dX13_init_13 : decode cX13_init 13 = .ok (.newarray .int, 2) := by decide +kernel
theorem dX13_init_15 : decode cX13_init 15 = .ok (.putfield 13, 3) := by decide +kernel
theorem dX13_init_18 : decode cX13_init 18 = .ok (.aload_n 0, 1) := by decide +kernel
theorem dX13_init_19 : decode cX13_init 19 = .ok (.sipush 240, 3) := by decide +kernel
theorem dX13_init_22 : decode cX13_init 22 = .ok (.newarray .long, 2) := by decide +kernel
theorem dX13_init_24 : decode cX13_init 24 = .ok (.putfield 16, 3) := by decide +kernel
theorem dX13_init_27 : decode cX13_init 27 = .ok (.aload_n 0, 1) := by decide +kernel
theorem dX13_init_28 : decode cX13_init 28 = .ok (.sipush 900, 3) := by decide +kernel
theorem dX13_init_31 : decode cX13_init 31 = .ok (.newarray .byte, 2) := by decide +kernel
theorem dX13_init_33 : decode cX13_init 33 = .ok (.putfield 20, 3) := by decide +kernel
theorem dX13_init_36 : decode cX13_init 36 = .ok (.aload_n 0, 1) := by decide +kernel
theorem dX13_init_37 : decode cX13_init 37 = .ok (.iconst (-1), 1) := by decide +kernel
theorem dX13_init_38 : decode cX13_init 38 = .ok (.putfield 24, 3) := by decide +kernel
theorem dX13_init_41 : decode cX13_init 41 = .ok (.aload_n 0, 1) := by decide +kernel
theorem dX13_init_42 : decode cX13_init 42 = .ok (.iconst (-1), 1) := by decide +kernel
theorem dX13_init_43 : decode cX13_init 43 = .ok (.putfield 28, 3) := by decide +kernel
theorem dX13_init_46 : decode cX13_init 46 = .ok (.aload_n 0, 1) := by decide +kernel
theorem dX13_init_47 : decode cX13_init 47 = .ok (.sipush 1476, 3) := by decide +kernel
theorem dX13_init_50 : decode cX13_init 50 = .ok (.newarray .int, 2) := by decide +kernel
theorem dX13_init_52 : decode cX13_init 52 = .ok (.putfield 31, 3) := by decide +kernel
theorem dX13_init_55 : decode cX13_init 55 = .ok (.aload_n 0, 1) := by decide +kernel
theorem dX13_init_56 : decode cX13_init 56 = .ok (.sipush 984, 3) := by decide +kernel
theorem dX13_init_59 : decode cX13_init 59 = .ok (.newarray .double, 2) := by decide +kernel
theorem dX13_init_61 : decode cX13_init 61 = .ok (.putfield 34, 3) := by decide +kernel
theorem dX13_init_64 : decode cX13_init 64 = .ok (.aload_n 0, 1) := by decide +kernel
theorem dX13_init_65 : decode cX13_init 65 = .ok (.bipush 96, 2) := by decide +kernel
theorem dX13_init_67 : decode cX13_init 67 = .ok (.newarray .int, 2) := by decide +kernel
theorem dX13_init_69 : decode cX13_init 69 = .ok (.putfield 38, 3) := by decide +kernel
theorem dX13_init_72 : decode cX13_init 72 = .ok (.aload_n 0, 1) := by decide +kernel
theorem dX13_init_73 : decode cX13_init 73 = .ok (.bipush 96, 2) := by decide +kernel
theorem dX13_init_75 : decode cX13_init 75 = .ok (.newarray .int, 2) := by decide +kernel
theorem dX13_init_77 : decode cX13_init 77 = .ok (.putfield 41, 3) := by decide +kernel
theorem dX13_init_80 : decode cX13_init 80 = .ok (.aload_n 0, 1) := by decide +kernel
theorem dX13_init_81 : decode cX13_init 81 = .ok (.iconst 4, 1) := by decide +kernel
theorem dX13_init_82 : decode cX13_init 82 = .ok (.newarray .int, 2) := by decide +kernel
theorem dX13_init_84 : decode cX13_init 84 = .ok (.putfield 44, 3) := by decide +kernel
theorem dX13_init_87 : decode cX13_init 87 = .ok (.aload_n 0, 1) := by decide +kernel
theorem dX13_init_88 : decode cX13_init 88 = .ok (.bipush 16, 2) := by decide +kernel
theorem dX13_init_90 : decode cX13_init 90 = .ok (.newarray .int, 2) := by decide +kernel
theorem dX13_init_92 : decode cX13_init 92 = .ok (.putfield 47, 3) := by decide +kernel
theorem dX13_init_95 : decode cX13_init 95 = .ok (.aload_n 0, 1) := by decide +kernel
theorem dX13_init_96 : decode cX13_init 96 = .ok (.bipush 30, 2) := by decide +kernel
theorem dX13_init_98 : decode cX13_init 98 = .ok (.newarray .int, 2) := by decide +kernel
theorem dX13_init_100 : decode cX13_init 100 = .ok (.putfield 50, 3) := by decide +kernel
theorem dX13_init_103 : decode cX13_init 103 = .ok (.aload_n 0, 1) := by decide +kernel
theorem dX13_init_104 : decode cX13_init 104 = .ok (.bipush 30, 2) := by decide +kernel
theorem dX13_init_106 : decode cX13_init 106 = .ok (.newarray .int, 2) := by decide +kernel
theorem dX13_init_108 : decode cX13_init 108 = .ok (.putfield 53, 3) := by decide +kernel
theorem dX13_init_111 : decode cX13_init 111 = .ok (.aload_n 0, 1) := by decide +kernel
theorem dX13_init_112 : decode cX13_init 112 = .ok (.bipush 16, 2) := by decide +kernel
theorem dX13_init_114 : decode cX13_init 114 = .ok (.newarray .double, 2) := by decide +kernel
theorem dX13_init_116 : decode cX13_init 116 = .ok (.putfield 56, 3) := by decide +kernel
theorem dX13_init_119 : decode cX13_init 119 = .ok (.aload_n 0, 1) := by decide +kernel
theorem dX13_init_120 : decode cX13_init 120 = .ok (.bipush 6, 2) := by decide +kernel
theorem dX13_init_122 : decode cX13_init 122 = .ok (.newarray .int, 2) := by decide +kernel
theorem dX13_init_124 : decode cX13_init 124 = .ok (.putfield 59, 3) := by decide +kernel
theorem dX13_init_127 : decode cX13_init 127 = .ok (.aload_n 0, 1) := by decide +kernel
theorem dX13_init_128 : decode cX13_init 128 = .ok (.bipush 30, 2) := by decide +kernel
theorem dX13_init_130 : decode cX13_init 130 = .ok (.newarray .int, 2) := by decide +kernel
theorem dX13_init_132 : decode cX13_init 132 = .ok (.putfield 62, 3) := by decide +kernel
theorem dX13_init_135 : decode cX13_init 135 = .ok (.aload_n 0, 1) := by decide +kernel
theorem dX13_init_136 : decode cX13_init 136 = .ok (.bipush 30, 2) := by decide +kernel
theorem dX13_init_138 : decode cX13_init 138 = .ok (.newarray .int, 2) := by decide +kernel
theorem dX13_init_140 : decode cX13_init 140 = .ok (.putfield 65, 3) := by decide +kernel
theorem dX13_init_143 : decode cX13_init 143 = .ok (.aload_n 0, 1) := by decide +kernel
theorem dX13_init_144 : decode cX13_init 144 = .ok (.bipush 16, 2) := by decide +kernel
theorem dX13_init_146 : decode cX13_init 146 = .ok (.newarray .int, 2) := by decide +kernel
theorem dX13_init_148 : decode cX13_init 148 = .ok (.putfield 68, 3) := by decide +kernel
theorem dX13_init_151 : decode cX13_init 151 = .ok (.iconst 0, 1) := by decide +kernel
theorem dX13_init_152 : decode cX13_init 152 = .ok (.istore_n 1, 1) := by decide +kernel
theorem dX13_init_153 : decode cX13_init 153 = .ok (.iload_n 1, 1) := by decide +kernel
theorem dX13_init_154 : decode cX13_init 154 = .ok (.iconst 4, 1) := by decide +kernel
theorem dX13_init_155 : decode cX13_init 155 = .ok (.if_icmp .ge 16, 3) := by decide +kernel
theorem dX13_init_158 : decode cX13_init 158 = .ok (.aload_n 0, 1) := by decide +kernel
theorem dX13_init_159 : decode cX13_init 159 = .ok (.getfield 13, 3) := by decide +kernel
theorem dX13_init_162 : decode cX13_init 162 = .ok (.iload_n 1, 1) := by decide +kernel
theorem dX13_init_163 : decode cX13_init 163 = .ok (.iconst (-1), 1) := by decide +kernel
theorem dX13_init_164 : decode cX13_init 164 = .ok (.iastore, 1) := by decide +kernel
theorem dX13_init_165 : decode cX13_init 165 = .ok (.iinc 1 1, 3) := by decide +kernel
theorem dX13_init_168 : decode cX13_init 168 = .ok (.goto (-15), 3) := by decide +kernel
theorem dX13_init_171 : decode cX13_init 171 = .ok (.aload_n 0, 1) := by decide +kernel
theorem dX13_init_172 : decode cX13_init 172 = .ok (.getfield 31, 3) := by decide +kernel
theorem dX13_init_175 : decode cX13_init 175 = .ok (.iconst 0, 1) := by decide +kernel
theorem dX13_init_176 : decode cX13_init 176 = .ok (.bipush 16, 2) := by decide +kernel
theorem dX13_init_178 : decode cX13_init 178 = .ok (.iastore, 1) := by decide +kernel
theorem dX13_init_179 : decode cX13_init 179 = .ok (.aload_n 0, 1) := by decide +kernel
theorem dX13_init_180 : decode cX13_init 180 = .ok (.getfield 31, 3) := by decide +kernel
theorem dX13_init_183 : decode cX13_init 183 = .ok (.iconst 1, 1) := by decide +kernel
theorem dX13_init_184 : decode cX13_init 184 = .ok (.bipush 8, 2) := by decide +kernel
theorem dX13_init_186 : decode cX13_init 186 = .ok (.iastore, 1) := by decide +kernel
theorem dX13_init_187 : decode cX13_init 187 = .ok (.aload_n 0, 1) := by decide +kernel
theorem dX13_init_188 : decode cX13_init 188 = .ok (.getfield 31, 3) := by decide +kernel
theorem dX13_init_191 : decode cX13_init 191 = .ok (.iconst 2, 1) := by decide +kernel
theorem dX13_init_192 : decode cX13_init 192 = .ok (.iconst 4, 1) := by decide +kernel
theorem dX13_init_193 : decode cX13_init 193 = .ok (.iastore, 1) := by decide +kernel
theorem dX13_init_194 : decode cX13_init 194 = .ok (.return_, 1) := by decide +kernel
def pX13_init_b153 (this : Nat) (k153 : Int32 → MT → CT → Option (MT × CT)) (l1 : Int32) (g : MT) (h : CT) : Option (MT × CT) := if 4 ≤ l1 then tg g this 12 (lt (hR h this 19) fun r3 => (nn r3 fun a3 => (tg g a3 20 (ix (gL g a3) 0 (lt (sI h a3 (Int32.toNatClampNeg 0) 16) fun h6 => (lt (hR h6 this 19) fun r7 => (nn r7 fun a7 => (tg g a7 20 (ix (gL g a7) 1 (lt (sI h6 a7 (Int32.toNatClampNeg 1) 8) fun h10 => (lt (hR h10 this 19) fun r11 => (nn r11 fun a11 => (tg g a11 20 (ix (gL g a11) 2 (lt (sI h10 a11 (Int32.toNatClampNeg 2) 4) fun h14 => (some (g, h14))))))))))))))))) else tg g this 12 (lt (hR h this 5) fun r16 => (nn r16 fun a16 => (tg g a16 20 (ix (gL g a16) l1 (lt (sI h a16 (Int32.toNatClampNeg l1) (-1)) fun h19 => (lt (l1 + 1) fun x20 => (k153 x20 g h19)))))))
set_option maxRecDepth 10000 in
set_option maxHeartbeats 4000000 in
theorem pX13_init_b153_ok {X : Cx} {G : Gx} {dk : Nat} {g0 : MT} {h0 : CT} {this : Nat} {k153 : Int32 → MT → CT → Option (MT × CT)} (Z : Zy X G cX13_init RX13 2 dk none none "<init>" g0 h0) (hK : 1 ≤ dk) (hk153 : ∀ (l1 : Int32) (g : MT) (h : CT), RM X g → k153 l1 g h = some (g0, h0) → J X g h 153 [(0, va_rf (some this)), (1, .int l1)] []) (l1 : Int32) (g : MT) (h : CT) (M : RM X g) (hf : pX13_init_b153 this k153 l1 g h = some (g0, h0)) : J X g h 153 [(0, va_rf (some this)), (1, .int l1)] [] := by
  unfold pX13_init_b153 at hf
  refine J_iload_n Z.1 1 dX13_init_153 rfl rfl ?_
  refine J_iconst Z.1 (v := 4) (by decide) dX13_init_154 ?_
  refine J_icmp_ge Z.1 171 dX13_init_155 (by decide) (fun c1 => ?_) (fun c1 => ?_)
  · rw [if_pos c1] at hf
    refine J_aload_n Z.1 0 dX13_init_171 rfl rfl ?_
    obtain ⟨t2, hf⟩ := tg_i hf
    refine J_get (v := va_rf (hR h this 19)) Z.1 dX13_init_172 fl_X13_31 t2 rfl ?_
    refine J_tr (fun r3 er3 => ?_)
    replace hf := lt_i hf r3 er3
    refine J_iconst Z.1 (v := 0) (by decide) dX13_init_175 ?_
    refine J_bipush Z.1 (v := 16) (by decide) dX13_init_176 ?_
    obtain ⟨a3, rfl, hf⟩ := nn_i hf
    obtain ⟨t4, hf⟩ := tg_i hf
    obtain ⟨i5, hf⟩ := ix_i hf
    refine J_iastore Z.1 dX13_init_178 t4 i5 ?_
    refine J_th (fun h6 eh6 => ?_)
    replace hf := lt_i hf h6 eh6
    refine J_aload_n Z.1 0 dX13_init_179 rfl rfl ?_
    refine J_get (v := va_rf (hR h6 this 19)) Z.1 dX13_init_180 fl_X13_31 t2 rfl ?_
    refine J_tr (fun r7 er7 => ?_)
    replace hf := lt_i hf r7 er7
    refine J_iconst Z.1 (v := 1) (by decide) dX13_init_183 ?_
    refine J_bipush Z.1 (v := 8) (by decide) dX13_init_184 ?_
    obtain ⟨a7, rfl, hf⟩ := nn_i hf
    obtain ⟨t8, hf⟩ := tg_i hf
    obtain ⟨i9, hf⟩ := ix_i hf
    refine J_iastore Z.1 dX13_init_186 t8 i9 ?_
    refine J_th (fun h10 eh10 => ?_)
    replace hf := lt_i hf h10 eh10
    refine J_aload_n Z.1 0 dX13_init_187 rfl rfl ?_
    refine J_get (v := va_rf (hR h10 this 19)) Z.1 dX13_init_188 fl_X13_31 t2 rfl ?_
    refine J_tr (fun r11 er11 => ?_)
    replace hf := lt_i hf r11 er11
    refine J_iconst Z.1 (v := 2) (by decide) dX13_init_191 ?_
    refine J_iconst Z.1 (v := 4) (by decide) dX13_init_192 ?_
    obtain ⟨a11, rfl, hf⟩ := nn_i hf
    obtain ⟨t12, hf⟩ := tg_i hf
    obtain ⟨i13, hf⟩ := ix_i hf
    refine J_iastore Z.1 dX13_init_193 t12 i13 ?_
    refine J_th (fun h14 eh14 => ?_)
    replace hf := lt_i hf h14 eh14
    cases hf
    exact J_vret Z.1 Z.2.2.2.2.1 dX13_init_194
  · rw [if_neg c1] at hf
    refine J_aload_n Z.1 0 dX13_init_158 rfl rfl ?_
    obtain ⟨t15, hf⟩ := tg_i hf
    refine J_get (v := va_rf (hR h this 5)) Z.1 dX13_init_159 fl_X13_13 t15 rfl ?_
    refine J_tr (fun r16 er16 => ?_)
    replace hf := lt_i hf r16 er16
    refine J_iload_n Z.1 1 dX13_init_162 rfl rfl ?_
    refine J_iconst Z.1 (v := (-1)) (by decide) dX13_init_163 ?_
    obtain ⟨a16, rfl, hf⟩ := nn_i hf
    obtain ⟨t17, hf⟩ := tg_i hf
    obtain ⟨i18, hf⟩ := ix_i hf
    refine J_iastore Z.1 dX13_init_164 t17 i18 ?_
    refine J_th (fun h19 eh19 => ?_)
    replace hf := lt_i hf h19 eh19
    refine J_iinc Z.1 (v := 1) (lv2 := [(1, .int (l1 + 1)), (0, va_rf (some this))]) 1 dX13_init_165 rfl (by decide) (yL Z (by decide)) rfl ?_
    obtain ⟨x20, ex20⟩ : ∃ z, z = (l1 + 1) := ⟨_, rfl⟩
    replace hf := lt_i hf x20 ex20
    rw [← ex20]
    refine J_goto Z.1 153 dX13_init_168 (by decide) ?_
    refine J_lv [1, 0] rfl ?_
    exact hk153 _ _ _ M hf
def pX13_init_l153 (this : Nat) : Nat → Int32 → MT → CT → Option (MT × CT)
  | 0, _, _, _ => none
  | n + 1, l1, g, h => pX13_init_b153 this (pX13_init_l153 this n) l1 g h
theorem pX13_init_l153_ok {X : Cx} {G : Gx} {dk : Nat} {g0 : MT} {h0 : CT} {this : Nat} (Z : Zy X G cX13_init RX13 2 dk none none "<init>" g0 h0) (hK : 1 ≤ dk) : ∀ (n : Nat) (l1 : Int32) (g : MT) (h : CT), RM X g → pX13_init_l153 this n l1 g h = some (g0, h0) → J X g h 153 [(0, va_rf (some this)), (1, .int l1)] [] := by
  intro n
  induction n with
  | zero => intro l1 g h M hf; cases hf
  | succ n ih => intro l1 g h M hf; exact pX13_init_b153_ok Z hK ih l1 g h M hf
def pX13_init (g : MT) (h : CT) (this : Nat) : Option (MT × CT) := gq Prod.fst g (gq Prod.fst (gA g 20 4) (lt (gA g 20 4) fun g1 => (lt (hZ h (gN g)) fun h2 => (lt (gN g) fun a3 => (tg g1 this 12 (lt (sR h2 this 4 (some a3)) fun h7 => (gq Prod.fst (gA g1 20 4) (lt (gA g1 20 4) fun g8 => (lt (hZ h7 (gN g1)) fun h9 => (lt (gN g1) fun a10 => (tg g8 this 12 (lt (sR h9 this 5 (some a10)) fun h14 => (gq Prod.fst (gA g8 21 240) (lt (gA g8 21 240) fun g15 => (lt (hZ h14 (gN g8)) fun h16 => (lt (gN g8) fun a17 => (tg g15 this 12 (lt (sR h16 this 6 (some a17)) fun h21 => (gq Prod.fst (gA g15 23 900) (lt (gA g15 23 900) fun g22 => (lt (hZ h21 (gN g15)) fun h23 => (lt (gN g15) fun a24 => (tg g22 this 12 (lt (sR h23 this 7 (some a24)) fun h28 => (lt (sI h28 this 10 (-1)) fun h29 => (lt (sI h29 this 11 (-1)) fun h30 => (gq Prod.fst (gA g22 20 1476) (lt (gA g22 20 1476) fun g31 => (lt (hZ h30 (gN g22)) fun h32 => (lt (gN g22) fun a33 => (tg g31 this 12 (lt (sR h32 this 19 (some a33)) fun h37 => (gq Prod.fst (gA g31 22 984) (lt (gA g31 22 984) fun g38 => (lt (hZ h37 (gN g31)) fun h39 => (lt (gN g31) fun a40 => (tg g38 this 12 (lt (sR h39 this 20 (some a40)) fun h44 => (gq Prod.fst (gA g38 20 96) (lt (gA g38 20 96) fun g45 => (lt (hZ h44 (gN g38)) fun h46 => (lt (gN g38) fun a47 => (tg g45 this 12 (lt (sR h46 this 23 (some a47)) fun h51 => (gq Prod.fst (gA g45 20 96) (lt (gA g45 20 96) fun g52 => (lt (hZ h51 (gN g45)) fun h53 => (lt (gN g45) fun a54 => (tg g52 this 12 (lt (sR h53 this 24 (some a54)) fun h58 => (gq Prod.fst (gA g52 20 4) (lt (gA g52 20 4) fun g59 => (lt (hZ h58 (gN g52)) fun h60 => (lt (gN g52) fun a61 => (tg g59 this 12 (lt (sR h60 this 25 (some a61)) fun h65 => (gq Prod.fst (gA g59 20 16) (lt (gA g59 20 16) fun g66 => (lt (hZ h65 (gN g59)) fun h67 => (lt (gN g59) fun a68 => (tg g66 this 12 (lt (sR h67 this 26 (some a68)) fun h72 => (gq Prod.fst (gA g66 20 30) (lt (gA g66 20 30) fun g73 => (lt (hZ h72 (gN g66)) fun h74 => (lt (gN g66) fun a75 => (tg g73 this 12 (lt (sR h74 this 27 (some a75)) fun h79 => (gq Prod.fst (gA g73 20 30) (lt (gA g73 20 30) fun g80 => (lt (hZ h79 (gN g73)) fun h81 => (lt (gN g73) fun a82 => (tg g80 this 12 (lt (sR h81 this 28 (some a82)) fun h86 => (gq Prod.fst (gA g80 22 16) (lt (gA g80 22 16) fun g87 => (lt (hZ h86 (gN g80)) fun h88 => (lt (gN g80) fun a89 => (tg g87 this 12 (lt (sR h88 this 43 (some a89)) fun h93 => (gq Prod.fst (gA g87 20 6) (lt (gA g87 20 6) fun g94 => (lt (hZ h93 (gN g87)) fun h95 => (lt (gN g87) fun a96 => (tg g94 this 12 (lt (sR h95 this 45 (some a96)) fun h100 => (gq Prod.fst (gA g94 20 30) (lt (gA g94 20 30) fun g101 => (lt (hZ h100 (gN g94)) fun h102 => (lt (gN g94) fun a103 => (tg g101 this 12 (lt (sR h102 this 46 (some a103)) fun h107 => (gq Prod.fst (gA g101 20 30) (lt (gA g101 20 30) fun g108 => (lt (hZ h107 (gN g101)) fun h109 => (lt (gN g101) fun a110 => (tg g108 this 12 (lt (sR h109 this 47 (some a110)) fun h114 => (gq Prod.fst (gA g108 20 16) (lt (gA g108 20 16) fun g115 => (lt (hZ h114 (gN g108)) fun h116 => (lt (gN g108) fun a117 => (tg g115 this 12 (lt (sR h116 this 50 (some a117)) fun h121 => (pX13_init_l153 this  FUEL 0 g115 h121)))))))))))))))))))))))))))))))))))))))))))))))))))))))))))))))))))))))))))))))))))))))))))))))))))))))))
theorem pX13_init_mono {g g0 : MT} {h h0 : CT} {this : Nat} (hf : pX13_init g h this = some (g0, h0)) : gN g ≤ gN g0 ∧ gU g ≤ gU g0 := by
  unfold pX13_init at hf
  exact (gq_i hf).1
set_option maxRecDepth 10000 in
set_option maxHeartbeats 4000000 in
theorem pX13_init_ok (G : Gx) (dk : Nat) (hK : 1 ≤ dk) {g g0 : MT} {h h0 : CT} {this : Nat} (hf : pX13_init g h this = some (g0, h0)) : Ctr G dk yX13_init cX13_init 2 none [va_rf (some this)] g h none g0 h0 := by
  unfold pX13_init at hf
  obtain ⟨hm, hf⟩ := gq_i hf
  refine Ctr.ofY (lv := [(0, va_rf (some this))]) (by decide +kernel) (by simp [cat_i, cat_l, cat_d, cat_rf]) rfl hm fun X Z M => ?_
  refine J_aload_n Z.1 0 dX13_init_0 rfl rfl ?_
  refine J_objInit Z.1 dX13_init_1 q_1399 q_168 q_169 (yO2 Z (by omega) (by simp [cat_i, cat_l, cat_d, cat_rf])) (yF Z (d := 0) (by omega)) ?_
  refine J_aload_n Z.1 0 dX13_init_4 rfl rfl ?_
  refine J_iconst Z.1 (v := 4) (by decide) dX13_init_5 ?_
  obtain ⟨n4, hf⟩ := gq_i hf
  have M5 := rmA Z M n4
  refine J_newa (t := 0) (N := 4) .int Z.1 dX13_init_6 rfl rfl (by decide) (fun _ q => by cases q) q_485 (by decide) (by decide) (by decide) M M5 ?_
  refine J_tg (fun g1 eg1 => ?_)
  rw [← eg1] at M5
  replace hf := lt_i hf g1 eg1
  refine J_th (fun h2 eh2 => ?_)
  replace hf := lt_i hf h2 eh2
  refine J_ta (fun a3 ea3 => ?_)
  replace hf := lt_i hf a3 ea3
  obtain ⟨t6, hf⟩ := tg_i hf
  refine J_putR Z.1 dX13_init_8 fl_X13_7 (fun _ => ⟨Z.2.2.2.2.2.2.2, _, rfl, rfl⟩) t6 (Or.inr ⟨_, rfl⟩) ?_
  refine J_th (fun h7 eh7 => ?_)
  replace hf := lt_i hf h7 eh7
  refine J_aload_n Z.1 0 dX13_init_11 rfl rfl ?_
  refine J_iconst Z.1 (v := 4) (by decide) dX13_init_12 ?_
  obtain ⟨n11, hf⟩ := gq_i hf
  have M12 := rmA Z M5 n11
  refine J_newa (t := 0) (N := 4) .int Z.1 dX13_init_13 rfl rfl (by decide) (fun _ q => by cases q) q_485 (by decide) (by decide) (by decide) M5 M12 ?_
  refine J_tg (fun g8 eg8 => ?_)
  rw [← eg8] at M12
  replace hf := lt_i hf g8 eg8
  refine J_th (fun h9 eh9 => ?_)
  replace hf := lt_i hf h9 eh9
  refine J_ta (fun a10 ea10 => ?_)
  replace hf := lt_i hf a10 ea10
  obtain ⟨t13, hf⟩ := tg_i hf
  refine J_putR Z.1 dX13_init_15 fl_X13_13 (fun _ => ⟨Z.2.2.2.2.2.2.2, _, rfl, rfl⟩) t13 (Or.inr ⟨_, rfl⟩) ?_
  refine J_th (fun h14 eh14 => ?_)
  replace hf := lt_i hf h14 eh14
  refine J_aload_n Z.1 0 dX13_init_18 rfl rfl ?_
  refine J_sipush Z.1 (v := 240) (by decide) dX13_init_19 ?_
  obtain ⟨n18, hf⟩ := gq_i hf
  have M19 := rmA Z M12 n18
  refine J_newa (t := 1) (N := 240) .long Z.1 dX13_init_22 rfl rfl (by decide) (fun _ q => by cases q) q_194 (by decide) (by decide) (by decide) M12 M19 ?_
  refine J_tg (fun g15 eg15 => ?_)
  rw [← eg15] at M19
  replace hf := lt_i hf g15 eg15
  refine J_th (fun h16 eh16 => ?_)
  replace hf := lt_i hf h16 eh16
  refine J_ta (fun a17 ea17 => ?_)
  replace hf := lt_i hf a17 ea17
  obtain ⟨t20, hf⟩ := tg_i hf
  refine J_putR Z.1 dX13_init_24 fl_X13_16 (fun _ => ⟨Z.2.2.2.2.2.2.2, _, rfl, rfl⟩) t20 (Or.inr ⟨_, rfl⟩) ?_
  refine J_th (fun h21 eh21 => ?_)
  replace hf := lt_i hf h21 eh21
  refine J_aload_n Z.1 0 dX13_init_27 rfl rfl ?_
  refine J_sipush Z.1 (v := 900) (by decide) dX13_init_28 ?_
  obtain ⟨n25, hf⟩ := gq_i hf
  have M26 := rmA Z M19 n25
  refine J_newa (t := 3) (N := 900) .byte Z.1 dX13_init_31 rfl rfl (by decide) (fun _ q => by cases q) q_241 (by decide) (by decide) (by decide) M19 M26 ?_
  refine J_tg (fun g22 eg22 => ?_)
  rw [← eg22] at M26
  replace hf := lt_i hf g22 eg22
  refine J_th (fun h23 eh23 => ?_)
  replace hf := lt_i hf h23 eh23
  refine J_ta (fun a24 ea24 => ?_)
  replace hf := lt_i hf a24 ea24
  obtain ⟨t27, hf⟩ := tg_i hf
  refine J_putR Z.1 dX13_init_33 fl_X13_20 (fun _ => ⟨Z.2.2.2.2.2.2.2, _, rfl, rfl⟩) t27 (Or.inr ⟨_, rfl⟩) ?_
  refine J_th (fun h28 eh28 => ?_)
  replace hf := lt_i hf h28 eh28
  refine J_aload_n Z.1 0 dX13_init_36 rfl rfl ?_
  refine J_iconst Z.1 (v := (-1)) (by decide) dX13_init_37 ?_
  refine J_putI Z.1 dX13_init_38 fl_X13_24 (fun q => by cases q) t27 rfl rfl (congrArg Value.int (hI_s _ _ _ _)) ?_
  refine J_th (fun h29 eh29 => ?_)
  replace hf := lt_i hf h29 eh29
  refine J_aload_n Z.1 0 dX13_init_41 rfl rfl ?_
  refine J_iconst Z.1 (v := (-1)) (by decide) dX13_init_42 ?_
  refine J_putI Z.1 dX13_init_43 fl_X13_28 (fun q => by cases q) t27 rfl rfl (congrArg Value.int (hI_s _ _ _ _)) ?_
  refine J_th (fun h30 eh30 => ?_)
  replace hf := lt_i hf h30 eh30
  refine J_aload_n Z.1 0 dX13_init_46 rfl rfl ?_
  refine J_sipush Z.1 (v := 1476) (by decide) dX13_init_47 ?_
  obtain ⟨n34, hf⟩ := gq_i hf
  have M35 := rmA Z M26 n34
  refine J_newa (t := 0) (N := 1476) .int Z.1 dX13_init_50 rfl rfl (by decide) (fun _ q => by cases q) q_485 (by decide) (by decide) (by decide) M26 M35 ?_
  refine J_tg (fun g31 eg31 => ?_)
  rw [← eg31] at M35
  replace hf := lt_i hf g31 eg31
  refine J_th (fun h32 eh32 => ?_)
  replace hf := lt_i hf h32 eh32
  refine J_ta (fun a33 ea33 => ?_)
  replace hf := lt_i hf a33 ea33
  obtain ⟨t36, hf⟩ := tg_i hf
  refine J_putR Z.1 dX13_init_52 fl_X13_31 (fun _ => ⟨Z.2.2.2.2.2.2.2, _, rfl, rfl⟩) t36 (Or.inr ⟨_, rfl⟩) ?_
  refine J_th (fun h37 eh37 => ?_)
  replace hf := lt_i hf h37 eh37
  refine J_aload_n Z.1 0 dX13_init_55 rfl rfl ?_
  refine J_sipush Z.1 (v := 984) (by decide) dX13_init_56 ?_
  obtain ⟨n41, hf⟩ := gq_i hf
  have M42 := rmA Z M35 n41
  refine J_newa (t := 2) (N := 984) .double Z.1 dX13_init_59 rfl rfl (by decide) (fun _ q => by cases q) q_265 (by decide) (by decide) (by decide) M35 M42 ?_
  refine J_tg (fun g38 eg38 => ?_)
  rw [← eg38] at M42
  replace hf := lt_i hf g38 eg38
  refine J_th (fun h39 eh39 => ?_)
  replace hf := lt_i hf h39 eh39
  refine J_ta (fun a40 ea40 => ?_)
  replace hf := lt_i hf a40 ea40
  obtain ⟨t43, hf⟩ := tg_i hf
  refine J_putR Z.1 dX13_init_61 fl_X13_34 (fun _ => ⟨Z.2.2.2.2.2.2.2, _, rfl, rfl⟩) t43 (Or.inr ⟨_, rfl⟩) ?_
  refine J_th (fun h44 eh44 => ?_)
  replace hf := lt_i hf h44 eh44
  refine J_aload_n Z.1 0 dX13_init_64 rfl rfl ?_
  refine J_bipush Z.1 (v := 96) (by decide) dX13_init_65 ?_
  obtain ⟨n48, hf⟩ := gq_i hf
  have M49 := rmA Z M42 n48
  refine J_newa (t := 0) (N := 96) .int Z.1 dX13_init_67 rfl rfl (by decide) (fun _ q => by cases q) q_485 (by decide) (by decide) (by decide) M42 M49 ?_
  refine J_tg (fun g45 eg45 => ?_)
  rw [← eg45] at M49
  replace hf := lt_i hf g45 eg45
  refine J_th (fun h46 eh46 => ?_)
  replace hf := lt_i hf h46 eh46
  refine J_ta (fun a47 ea47 => ?_)
  replace hf := lt_i hf a47 ea47
  obtain ⟨t50, hf⟩ := tg_i hf
  refine J_putR Z.1 dX13_init_69 fl_X13_38 (fun _ => ⟨Z.2.2.2.2.2.2.2, _, rfl, rfl⟩) t50 (Or.inr ⟨_, rfl⟩) ?_
  refine J_th (fun h51 eh51 => ?_)
  replace hf := lt_i hf h51 eh51
  refine J_aload_n Z.1 0 dX13_init_72 rfl rfl ?_
  refine J_bipush Z.1 (v := 96) (by decide) dX13_init_73 ?_
  obtain ⟨n55, hf⟩ := gq_i hf
  have M56 := rmA Z M49 n55
  refine J_newa (t := 0) (N := 96) .int Z.1 dX13_init_75 rfl rfl (by decide) (fun _ q => by cases q) q_485 (by decide) (by decide) (by decide) M49 M56 ?_
  refine J_tg (fun g52 eg52 => ?_)
  rw [← eg52] at M56
  replace hf := lt_i hf g52 eg52
  refine J_th (fun h53 eh53 => ?_)
  replace hf := lt_i hf h53 eh53
  refine J_ta (fun a54 ea54 => ?_)
  replace hf := lt_i hf a54 ea54
  obtain ⟨t57, hf⟩ := tg_i hf
  refine J_putR Z.1 dX13_init_77 fl_X13_41 (fun _ => ⟨Z.2.2.2.2.2.2.2, _, rfl, rfl⟩) t57 (Or.inr ⟨_, rfl⟩) ?_
  refine J_th (fun h58 eh58 => ?_)
  replace hf := lt_i hf h58 eh58
  refine J_aload_n Z.1 0 dX13_init_80 rfl rfl ?_
  refine J_iconst Z.1 (v := 4) (by decide) dX13_init_81 ?_
  obtain ⟨n62, hf⟩ := gq_i hf
  have M63 := rmA Z M56 n62
  refine J_newa (t := 0) (N := 4) .int Z.1 dX13_init_82 rfl rfl (by decide) (fun _ q => by cases q) q_485 (by decide) (by decide) (by decide) M56 M63 ?_
  refine J_tg (fun g59 eg59 => ?_)
  rw [← eg59] at M63
  replace hf := lt_i hf g59 eg59
  refine J_th (fun h60 eh60 => ?_)
  replace hf := lt_i hf h60 eh60
  refine J_ta (fun a61 ea61 => ?_)
  replace hf := lt_i hf a61 ea61
  obtain ⟨t64, hf⟩ := tg_i hf
  refine J_putR Z.1 dX13_init_84 fl_X13_44 (fun _ => ⟨Z.2.2.2.2.2.2.2, _, rfl, rfl⟩) t64 (Or.inr ⟨_, rfl⟩) ?_
  refine J_th (fun h65 eh65 => ?_)
  replace hf := lt_i hf h65 eh65
  refine J_aload_n Z.1 0 dX13_init_87 rfl rfl ?_
  refine J_bipush Z.1 (v := 16) (by decide) dX13_init_88 ?_
  obtain ⟨n69, hf⟩ := gq_i hf
  have M70 := rmA Z M63 n69
  refine J_newa (t := 0) (N := 16) .int Z.1 dX13_init_90 rfl rfl (by decide) (fun _ q => by cases q) q_485 (by decide) (by decide) (by decide) M63 M70 ?_
  refine J_tg (fun g66 eg66 => ?_)
  rw [← eg66] at M70
  replace hf := lt_i hf g66 eg66
  refine J_th (fun h67 eh67 => ?_)
  replace hf := lt_i hf h67 eh67
  refine J_ta (fun a68 ea68 => ?_)
  replace hf := lt_i hf a68 ea68
  obtain ⟨t71, hf⟩ := tg_i hf
  refine J_putR Z.1 dX13_init_92 fl_X13_47 (fun _ => ⟨Z.2.2.2.2.2.2.2, _, rfl, rfl⟩) t71 (Or.inr ⟨_, rfl⟩) ?_
  refine J_th (fun h72 eh72 => ?_)
  replace hf := lt_i hf h72 eh72
  refine J_aload_n Z.1 0 dX13_init_95 rfl rfl ?_
  refine J_bipush Z.1 (v := 30) (by decide) dX13_init_96 ?_
  obtain ⟨n76, hf⟩ := gq_i hf
  have M77 := rmA Z M70 n76
  refine J_newa (t := 0) (N := 30) .int Z.1 dX13_init_98 rfl rfl (by decide) (fun _ q => by cases q) q_485 (by decide) (by decide) (by decide) M70 M77 ?_
  refine J_tg (fun g73 eg73 => ?_)
  rw [← eg73] at M77
  replace hf := lt_i hf g73 eg73
  refine J_th (fun h74 eh74 => ?_)
  replace hf := lt_i hf h74 eh74
  refine J_ta (fun a75 ea75 => ?_)
  replace hf := lt_i hf a75 ea75
  obtain ⟨t78, hf⟩ := tg_i hf
  refine J_putR Z.1 dX13_init_100 fl_X13_50 (fun _ => ⟨Z.2.2.2.2.2.2.2, _, rfl, rfl⟩) t78 (Or.inr ⟨_, rfl⟩) ?_
  refine J_th (fun h79 eh79 => ?_)
  replace hf := lt_i hf h79 eh79
  refine J_aload_n Z.1 0 dX13_init_103 rfl rfl ?_
  refine J_bipush Z.1 (v := 30) (by decide) dX13_init_104 ?_
  obtain ⟨n83, hf⟩ := gq_i hf
  have M84 := rmA Z M77 n83
  refine J_newa (t := 0) (N := 30) .int Z.1 dX13_init_106 rfl rfl (by decide) (fun _ q => by cases q) q_485 (by decide) (by decide) (by decide) M77 M84 ?_
  refine J_tg (fun g80 eg80 => ?_)
  rw [← eg80] at M84
  replace hf := lt_i hf g80 eg80
  refine J_th (fun h81 eh81 => ?_)
  replace hf := lt_i hf h81 eh81
  refine J_ta (fun a82 ea82 => ?_)
  replace hf := lt_i hf a82 ea82
  obtain ⟨t85, hf⟩ := tg_i hf
  refine J_putR Z.1 dX13_init_108 fl_X13_53 (fun _ => ⟨Z.2.2.2.2.2.2.2, _, rfl, rfl⟩) t85 (Or.inr ⟨_, rfl⟩) ?_
  refine J_th (fun h86 eh86 => ?_)
  replace hf := lt_i hf h86 eh86
  refine J_aload_n Z.1 0 dX13_init_111 rfl rfl ?_
  refine J_bipush Z.1 (v := 16) (by decide) dX13_init_112 ?_
  obtain ⟨n90, hf⟩ := gq_i hf
  have M91 := rmA Z M84 n90
  refine J_newa (t := 2) (N := 16) .double Z.1 dX13_init_114 rfl rfl (by decide) (fun _ q => by cases q) q_265 (by decide) (by decide) (by decide) M84 M91 ?_
  refine J_tg (fun g87 eg87 => ?_)
  rw [← eg87] at M91
  replace hf := lt_i hf g87 eg87
  refine J_th (fun h88 eh88 => ?_)
  replace hf := lt_i hf h88 eh88
  refine J_ta (fun a89 ea89 => ?_)
  replace hf := lt_i hf a89 ea89
  obtain ⟨t92, hf⟩ := tg_i hf
  refine J_putR Z.1 dX13_init_116 fl_X13_56 (fun _ => ⟨Z.2.2.2.2.2.2.2, _, rfl, rfl⟩) t92 (Or.inr ⟨_, rfl⟩) ?_
  refine J_th (fun h93 eh93 => ?_)
  replace hf := lt_i hf h93 eh93
  refine J_aload_n Z.1 0 dX13_init_119 rfl rfl ?_
  refine J_bipush Z.1 (v := 6) (by decide) dX13_init_120 ?_
  obtain ⟨n97, hf⟩ := gq_i hf
  have M98 := rmA Z M91 n97
  refine J_newa (t := 0) (N := 6) .int Z.1 dX13_init_122 rfl rfl (by decide) (fun _ q => by cases q) q_485 (by decide) (by decide) (by decide) M91 M98 ?_
  refine J_tg (fun g94 eg94 => ?_)
  rw [← eg94] at M98
  replace hf := lt_i hf g94 eg94
  refine J_th (fun h95 eh95 => ?_)
  replace hf := lt_i hf h95 eh95
  refine J_ta (fun a96 ea96 => ?_)
  replace hf := lt_i hf a96 ea96
  obtain ⟨t99, hf⟩ := tg_i hf
  refine J_putR Z.1 dX13_init_124 fl_X13_59 (fun _ => ⟨Z.2.2.2.2.2.2.2, _, rfl, rfl⟩) t99 (Or.inr ⟨_, rfl⟩) ?_
  refine J_th (fun h100 eh100 => ?_)
  replace hf := lt_i hf h100 eh100
  refine J_aload_n Z.1 0 dX13_init_127 rfl rfl ?_
  refine J_bipush Z.1 (v := 30) (by decide) dX13_init_128 ?_
  obtain ⟨n104, hf⟩ := gq_i hf
  have M105 := rmA Z M98 n104
  refine J_newa (t := 0) (N := 30) .int Z.1 dX13_init_130 rfl rfl (by decide) (fun _ q => by cases q) q_485 (by decide) (by decide) (by decide) M98 M105 ?_
  refine J_tg (fun g101 eg101 => ?_)
  rw [← eg101] at M105
  replace hf := lt_i hf g101 eg101
  refine J_th (fun h102 eh102 => ?_)
  replace hf := lt_i hf h102 eh102
  refine J_ta (fun a103 ea103 => ?_)
  replace hf := lt_i hf a103 ea103
  obtain ⟨t106, hf⟩ := tg_i hf
  refine J_putR Z.1 dX13_init_132 fl_X13_62 (fun _ => ⟨Z.2.2.2.2.2.2.2, _, rfl, rfl⟩) t106 (Or.inr ⟨_, rfl⟩) ?_
  refine J_th (fun h107 eh107 => ?_)
  replace hf := lt_i hf h107 eh107
  refine J_aload_n Z.1 0 dX13_init_135 rfl rfl ?_
  refine J_bipush Z.1 (v := 30) (by decide) dX13_init_136 ?_
  obtain ⟨n111, hf⟩ := gq_i hf
  have M112 := rmA Z M105 n111
  refine J_newa (t := 0) (N := 30) .int Z.1 dX13_init_138 rfl rfl (by decide) (fun _ q => by cases q) q_485 (by decide) (by decide) (by decide) M105 M112 ?_
  refine J_tg (fun g108 eg108 => ?_)
  rw [← eg108] at M112
  replace hf := lt_i hf g108 eg108
  refine J_th (fun h109 eh109 => ?_)
  replace hf := lt_i hf h109 eh109
  refine J_ta (fun a110 ea110 => ?_)
  replace hf := lt_i hf a110 ea110
  obtain ⟨t113, hf⟩ := tg_i hf
  refine J_putR Z.1 dX13_init_140 fl_X13_65 (fun _ => ⟨Z.2.2.2.2.2.2.2, _, rfl, rfl⟩) t113 (Or.inr ⟨_, rfl⟩) ?_
  refine J_th (fun h114 eh114 => ?_)
  replace hf := lt_i hf h114 eh114
  refine J_aload_n Z.1 0 dX13_init_143 rfl rfl ?_
  refine J_bipush Z.1 (v := 16) (by decide) dX13_init_144 ?_
  obtain ⟨n118, hf⟩ := gq_i hf
  have M119 := rmA Z M112 n118
  refine J_newa (t := 0) (N := 16) .int Z.1 dX13_init_146 rfl rfl (by decide) (fun _ q => by cases q) q_485 (by decide) (by decide) (by decide) M112 M119 ?_
  refine J_tg (fun g115 eg115 => ?_)
  rw [← eg115] at M119
  replace hf := lt_i hf g115 eg115
  refine J_th (fun h116 eh116 => ?_)
  replace hf := lt_i hf h116 eh116
  refine J_ta (fun a117 ea117 => ?_)
  replace hf := lt_i hf a117 ea117
  obtain ⟨t120, hf⟩ := tg_i hf
  refine J_putR Z.1 dX13_init_148 fl_X13_68 (fun _ => ⟨Z.2.2.2.2.2.2.2, _, rfl, rfl⟩) t120 (Or.inr ⟨_, rfl⟩) ?_
  refine J_th (fun h121 eh121 => ?_)
  replace hf := lt_i hf h121 eh121
  refine J_iconst Z.1 (v := 0) (by decide) dX13_init_151 ?_
  refine J_istore_n Z.1 (lv2 := [(1, .int 0), (0, va_rf (some this))]) dX13_init_152 rfl (yL Z (by decide)) rfl ?_
  refine J_lv [1, 0] rfl ?_
  exact pX13_init_l153_ok Z hK  FUEL _ _ _ M119 hf
