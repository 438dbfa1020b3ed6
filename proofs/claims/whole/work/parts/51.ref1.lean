/-! written by wip/whole/gen.py out of the printed bytecode -/
theorem dX13_init_0 : decode cX13_init 0 = .ok (.aload_n 0, 1) := by decide +kernel
theorem dX13_init_1 : decode cX13_init 1 = .ok (.invokespecial 1, 3) := by decide +kernel
theorem dX13_init_4 : decode cX13_init 4 = .ok (.aload_n 0, 1) := by decide +kernel
theorem dX13_init_5 : decode cX13_init 5 = .ok (.iconst 4, 1) := by decide +kernel
theorem dX13_init_6 : decode cX13_init 6 = .ok (.newarray .int, 2) := by decide +kernel
theorem dX13_init_8 : decode cX13_init 8 = .ok (.putfield 7, 3) := by decide +kernel
theorem dX13_init_11 : decode cX13_init 11 = .ok (.aload_n 0, 1) := by decide +kernel
theorem dX13_init_12 : decode cX13_init 12 = .ok (.iconst 4, 1) := by decide +kernel
theorem dX13_init_13 : decode cX13_init 13 = .ok (.newarray .int, 2) := by decide +kernel
theorem dX13_init_15 : decode cX13_init 15 = .ok (.putfield 13, 3) := by decide +kernel
theorem dX13_init_18 : decode cX13_init 18 = .ok (.aload_n 0, 1) := by decide +kernel
theorem dX13_init_19 : decode cX13_init 19 = .ok (.sipush 240, 3) := by decide +kernel
theorem dX13_init_22 : decode cX13_init 22 = .ok (.newarray .long, 2) := by decide +kernel
theorem dX13_init_24 : decode cX13_init 24 = .ok (.putfield 16, 3) := by decide +kernel
theorem dX13_init_27 : decode cX13_init 27 = .ok (.aload_n 0, 1) := by decide +kernel
theorem dX13_init_28 : decode cX13_init 28 = .ok (.sipush 900, 3) := by decide +kernel
theorem dX13_init_31 : decode cX13_init 31 = .ok (.newarray .byte, 2) := by decide +kernel
theorem dX13_init_33 : decode cX13_init 33 = .ok (.putfield 20, 3) := by decide +kernel
theorem dX13_init_36 : decode cX13_init 36 = .ok (.aload_n 0, 1) := by decide +kernel
theorem dX13_init_37 : decode cX13_init 37 = .ok (.iconst (-1), 1) := by decide +kernel
theorem dX13_init_38 : decode cX13_init 38 = .ok (.putfield 24, 3) := by decide +kernel
theorem dX13_init_41 : decode cX13_init 41 = .ok (.aload_n 0, 1) := by decide +kernel
theorem dX13_init_42 : decode cX13_init 42 = .ok (.iconst (-1), 1) := by decide +kernel
theorem dX13_init_43 : decode cX13_init 43 = .ok (.putfield 28, 3) := by decide +kernel
theorem dX13_init_46 : decode cX13_init 46 = .ok (.aload_n 0, 1) := by decide +kernel
theorem dX13_init_47 : decode cX13_init 47 = .ok (.sipush 1476, 3) := by decide +kernel
theorem dX13_init_50 : decode cX13_init 50 = .ok (.newarray .int, 2) := by decide +kernel
theorem dX13_init_52 : decode cX13_init 52 = .ok (.putfield 31, 3) := by decide +kernel
theorem dX13_init_55 : decode cX13_init 55 = .ok (.aload_n 0, 1) := by decide +kernel
theorem dX13_init_56 : decode cX13_init 56 = .ok (.sipush 984, 3) := by decide +kernel
theorem dX13_init_59 : decode cX13_init 59 = .ok (.newarray .double, 2) := by decide +kernel
theorem dX13_init_61 : decode cX13_init 61 = .ok (.putfield 34, 3) := by decide +kernel
theorem dX13_init_64 : decode cX13_init 64 = .ok (.aload_n 0, 1) := by decide +kernel
theorem dX13_init_65 : decode cX13_init 65 = .ok (.bipush 96, 2) := by decide +kernel
theorem dX13_init_67 : decode cX13_init 67 = .ok (.newarray .int, 2) := by decide +kernel
theorem dX13_init_69 : decode cX13_init 69 = .ok (.putfield 38, 3) := by decide +kernel
theorem dX13_init_72 : decode cX13_init 72 = .ok (.aload_n 0, 1) := by decide +kernel
theorem dX13_init_73 : decode cX13_init 73 = .ok (.bipush 96, 2) := by decide +kernel
theorem dX13_init_75 : decode cX13_init 75 = .ok (.newarray .int, 2) := by decide +kernel
theorem dX13_init_77 : decode cX13_init 77 = .ok (.putfield 41, 3) := by decide +kernel
theorem dX13_init_80 : decode cX13_init 80 = .ok (.aload_n 0, 1) := by decide +kernel
theorem dX13_init_81 : decode cX13_init 81 = .ok (.iconst 4, 1) := by decide +kernel
theorem dX13_init_82 : decode cX13_init 82 = .ok (.newarray .int, 2) := by decide +kernel
theorem dX13_init_84 : decode cX13_init 84 = .ok (.putfield 44, 3) := by decide +kernel
theorem dX13_init_87 : decode cX13_init 87 = .ok (.aload_n 0, 1) := by decide +kernel
theorem dX13_init_88 : decode cX13_init 88 = .ok (.bipush 16, 2) := by decide +kernel
theorem dX13_init_90 : decode cX13_init 90 = .ok (.newarray .int, 2) := by decide +kernel
theorem dX13_init_92 : decode cX13_init 92 = .ok (.putfield 47, 3) := by decide +kernel
theorem dX13_init_95 : decode cX13_init 95 = .ok (.aload_n 0, 1) := by decide +kernel
theorem dX13_init_96 : decode cX13_init 96 = .ok (.bipush 30, 2) := by decide +kernel
theorem dX13_init_98 : decode cX13_init 98 = .ok (.newarray .int, 2) := by decide +kernel
theorem dX13_init_100 : decode cX13_init 100 = .ok (.putfield 50, 3) := by decide +kernel
theorem dX13_init_103 : decode cX13_init 103 = .ok (.aload_n 0, 1) := by decide +kernel
theorem dX13_init_104 : decode cX13_init 104 = .ok (.bipush 30, 2) := by decide +kernel
theorem dX13_init_106 : decode cX13_init 106 = .ok (.newarray .int, 2) := by decide +kernel
theorem dX13_init_108 : decode cX13_init 108 = .ok (.putfield 53, 3) := by decide +kernel
theorem dX13_init_111 : decode cX13_init 111 = .ok (.aload_n 0, 1) := by decide +kernel
theorem dX13_init_112 : decode cX13_init 112 = .ok (.bipush 16, 2) := by decide +kernel
theorem dX13_init_114 : decode cX13_init 114 = .ok (.newarray .double, 2) := by decide +kernel
theorem dX13_init_116 : decode cX13_init 116 = .ok (.putfield 56, 3) := by decide +kernel
theorem dX13_init_119 : decode cX13_init 119 = .ok (.aload_n 0, 1) := by decide +kernel
theorem dX13_init_120 : decode cX13_init 120 = .ok (.bipush 6, 2) := by decide +kernel
theorem dX13_init_122 : decode cX13_init 122 = .ok (.newarray .int, 2) := by decide +kernel
theorem dX13_init_124 : decode cX13_init 124 = .ok (.putfield 59, 3) := by decide +kernel
theorem dX13_init_127 : decode cX13_init 127 = .ok (.aload_n 0, 1) := by decide +kernel
theorem dX13_init_128 : decode cX13_init 128 = .ok (.bipush 30, 2) := by decide +kernel
theorem dX13_init_130 : decode cX13_init 130 = .ok (.newarray .int, 2) := by decide +kernel
theorem dX13_init_132 : decode cX13_init 132 = .ok (.putfield 62, 3) := by decide +kernel
theorem dX13_init_135 : decode cX13_init 135 = .ok (.aload_n 0, 1) := by decide +kernel
theorem dX13_init_136 : decode cX13_init 136 = .ok (.bipush 30, 2) := by decide +kernel
theorem dX13_init_138 : decode cX13_init 138 = .ok (.newarray .int, 2) := by decide +kernel
theorem dX13_init_140 : decode cX13_init 140 = .ok (.putfield 65, 3) := by decide +kernel
theorem dX13_init_143 : decode cX13_init 143 = .ok (.aload_n 0, 1) := by decide +kernel
theorem dX13_init_144 : decode cX13_init 144 = .ok (.bipush 16, 2) := by decide +kernel
theorem dX13_init_146 : decode cX13_init 146 = .ok (.newarray .int, 2) := by decide +kernel
theorem dX13_init_148 : decode cX13_init 148 = .ok (.putfield 68, 3) := by decide +kernel
theorem dX13_init_151 : decode cX13_init 151 = .ok (.iconst 0, 1) := by decide +kernel
theorem dX13_init_152 : decode cX13_init 152 = .ok (.istore_n 1, 1) := by decide +kernel
theorem dX13_init_153 : decode cX13_init 153 = .ok (.iload_n 1, 1) := by decide +kernel
theorem dX13_init_154 : decode cX13_init 154 = .ok (.iconst 4, 1) := by decide +kernel
theorem dX13_init_155 : decode cX13_init 155 = .ok (.if_icmp .ge 16, 3) := by decide +kernel
theorem dX13_init_158 : decode cX13_init 158 = .ok (.aload_n 0, 1) := by decide +kernel
theorem dX13_init_159 : decode cX13_init 159 = .ok (.getfield 13, 3) := by decide +kernel
theorem dX13_init_162 : decode cX13_init 162 = .ok (.iload_n 1, 1) := by decide +kernel
theorem dX13_init_163 : decode cX13_init 163 = .ok (.iconst (-1), 1) := by decide +kernel
theorem dX13_init_164 : decode cX13_init 164 = .ok (.iastore, 1) := by decide +kernel
theorem dX13_init_165 : decode cX13_init 165 = .ok (.iinc 1 1, 3) := by decide +kernel
theorem dX13_init_168 : decode cX13_init 168 = .ok (.goto (-15), 3) := by decide +kernel
theorem dX13_init_171 : decode cX13_init 171 = .ok (.aload_n 0, 1) := by decide +kernel
theorem dX13_init_172 : decode cX13_init 172 = .ok (.getfield 31, 3) := by decide +kernel
theorem dX13_init_175 : decode cX13_init 175 = .ok (.iconst 0, 1) := by decide +kernel
theorem dX13_init_176 : decode cX13_init 176 = .ok (.bipush 16, 2) := by decide +kernel
theorem dX13_init_178 : decode cX13_init 178 = .ok (.iastore, 1) := by decide +kernel
theorem dX13_init_179 : decode cX13_init 179 = .ok (.aload_n 0, 1) := by decide +kernel
theorem dX13_init_180 : decode cX13_init 180 = .ok (.getfield 31, 3) := by decide +kernel
theorem dX13_init_183 : decode cX13_init 183 = .ok (.iconst 1, 1) := by decide +kernel
theorem dX13_init_184 : decode cX13_init 184 = .ok (.bipush 8, 2) := by decide +kernel
theorem dX13_init_186 : decode cX13_init 186 = .ok (.iastore, 1) := by decide +kernel
theorem dX13_init_187 : decode cX13_init 187 = .ok (.aload_n 0, 1) := by decide +kernel
theorem dX13_init_188 : decode cX13_init 188 = .ok (.getfield 31, 3) := by decide +kernel
theorem dX13_init_191 : decode cX13_init 191 = .ok (.iconst 2, 1) := by decide +kernel
theorem dX13_init_192 : decode cX13_init 192 = .ok (.iconst 4, 1) := by decide +kernel
theorem dX13_init_193 : decode cX13_init 193 = .ok (.iastore, 1) := by decide +kernel
theorem dX13_init_194 : decode cX13_init 194 = .ok (.return_, 1) := by decide +kernel
def pX13_init_b153 (this : Nat) (k153 : Int32 → MT → CT → Option (MT × CT)) (l1 : Int32) (g : MT) (h : CT) : Option (MT × CT) := if 4 ≤ l1 then tg g this 12 (lt (hR h this 19) fun r3 => (nn r3 fun a3 => (tg g a3 20 (ix (gL g a3) 0 (lt (sI h a3 (Int32.toNatClampNeg 0) 16) fun h6 => (lt (hR h6 this 19) fun r7 => (nn r7 fun a7 => (tg g a7 20 (ix (gL g a7) 1 (lt (sI h6 a7 (Int32.toNatClampNeg 1) 8) fun h10 => (lt (hR h10 this 19) fun r11 => (nn r11 fun a11 => (tg g a11 20 (ix (gL g a11) 2 (lt (sI h10 a11 (Int32.toNatClampNeg 2) 4) fun h14 => (some (g, h14))))))))))))))))) else tg g this 12 (lt (hR h this 5) fun r16 => (nn r16 fun a16 => (tg g a16 20 (ix (gL g a16) l1 (lt (sI h a16 (Int32.toNatClampNeg l1) (-1)) fun h19 => (lt (l1 + 1) fun x20 => (k153 x20 g h19)))))))
set_option maxRecDepth 10000 in
set_option maxHeartbeats 4000000 in
theorem pX13_init_b153_ok {X : Cx} {G : Gx} {dk : Nat} {g0 : MT} {h0 : CT} {this : Nat} {k153 : Int32 → MT → CT → Option (MT × CT)} (Z : Zy X G cX13_init RX13 2 dk none none "<init>" g0 h0) (hK : 1 ≤ dk) (hk153 : ∀ (l1 : Int32) (g : MT) (h : CT), RM X g → k153 l1 g h = some (g0, h0) → J X g h 153 [(0, va_rf (some this)), (1, .int l1)] []) (l1 : Int32) (g : MT) (h : CT) (M : RM X g) (hf : pX13_init_b153 this k153 l1 g h = some (g0, h0)) : J X g h 153 [(0, va_rf (some this)), (1, .int l1)] [] := by
  unfold pX13_init_b153 at hf
  refine J_iload_n Z.1 1 dX13_init_153 rfl rfl ?_
  refine J_iconst Z.1 (v := 4) (by decide) dX13_init_154 ?_
  refine J_icmp_ge Z.1 171 dX13_init_155 (by decide) (fun c1 => ?_) (fun c1 => ?_)
  · rw [if_pos c1] at hf
    refine J_aload_n Z.1 0 dX13_init_171 rfl rfl ?_
    replace hf := tg_i hf
    obtain ⟨t2, hf⟩ := hf
    refine J_get (v := va_rf (hR h this 19)) Z.1 dX13_init_172 fl_X13_31 t2 rfl ?_
    refine J_tr (fun r3 er3 => ?_)
    replace hf := lt_i hf r3 er3
    refine J_iconst Z.1 (v := 0) (by decide) dX13_init_175 ?_
    refine J_bipush Z.1 (v := 16) (by decide) dX13_init_176 ?_
    replace hf := nn_i hf
    obtain ⟨a3, rfl, hf⟩ := hf
    replace hf := tg_i hf
    obtain ⟨t4, hf⟩ := hf
    replace hf := ix_i hf
    obtain ⟨i5, hf⟩ := hf
    refine J_iastore Z.1 dX13_init_178 t4 i5 ?_
    refine J_th (fun h6 eh6 => ?_)
    replace hf := lt_i hf h6 eh6
    refine J_aload_n Z.1 0 dX13_init_179 rfl rfl ?_
    refine J_get (v := va_rf (hR h6 this 19)) Z.1 dX13_init_180 fl_X13_31 t2 rfl ?_
    refine J_tr (fun r7 er7 => ?_)
    replace hf := lt_i hf r7 er7
    refine J_iconst Z.1 (v := 1) (by decide) dX13_init_183 ?_
    refine J_bipush Z.1 (v := 8) (by decide) dX13_init_184 ?_
    replace hf := nn_i hf
    obtain ⟨a7, rfl, hf⟩ := hf
    replace hf := tg_i hf
    obtain ⟨t8, hf⟩ := hf
    replace hf := ix_i hf
    obtain ⟨i9, hf⟩ := hf
    refine J_iastore Z.1 dX13_init_186 t8 i9 ?_
    refine J_th (fun h10 eh10 => ?_)
    replace hf := lt_i hf h10 eh10
    refine J_aload_n Z.1 0 dX13_init_187 rfl rfl ?_
    refine J_get (v := va_rf (hR h10 this 19)) Z.1 dX13_init_188 fl_X13_31 t2 rfl ?_
    refine J_tr (fun r11 er11 => ?_)
    replace hf := lt_i hf r11 er11
    refine J_iconst Z.1 (v := 2) (by decide) dX13_init_191 ?_
    refine J_iconst Z.1 (v := 4) (by decide) dX13_init_192 ?_
    replace hf := nn_i hf
    obtain ⟨a11, rfl, hf⟩ := hf
    replace hf := tg_i hf
    obtain ⟨t12, hf⟩ := hf
    replace hf := ix_i hf
    obtain ⟨i13, hf⟩ := hf
    refine J_iastore Z.1 dX13_init_193 t12 i13 ?_
    refine J_th (fun h14 eh14 => ?_)
    replace hf := lt_i hf h14 eh14
    cases hf
    exact J_vret Z.1 Z.2.2.2.2.1 dX13_init_194
  · rw [if_neg c1] at hf
    refine J_aload_n Z.1 0 dX13_init_158 rfl rfl ?_
    replace hf := tg_i hf
    obtain ⟨t15, hf⟩ := hf
    refine J_get (v := va_rf (hR h this 5)) Z.1 dX13_init_159 fl_X13_13 t15 rfl ?_
    refine J_tr (fun r16 er16 => ?_)
    replace hf := lt_i hf r16 er16
    refine J_iload_n Z.1 1 dX13_init_162 rfl rfl ?_
    refine J_iconst Z.1 (v := (-1)) (by decide) dX13_init_163 ?_
    replace hf := nn_i hf
    obtain ⟨a16, rfl, hf⟩ := hf
    replace hf := tg_i hf
    obtain ⟨t17, hf⟩ := hf
    replace hf := ix_i hf
    obtain ⟨i18, hf⟩ := hf
    refine J_iastore Z.1 dX13_init_164 t17 i18 ?_
    refine J_th (fun h19 eh19 => ?_)
    replace hf := lt_i hf h19 eh19
    refine J_iinc Z.1 (v := 1) (lv2 := [(1, .int (l1 + 1)), (0, va_rf (some this))]) 1 dX13_init_165 rfl (by decide) (yL Z (by decide)) rfl ?_
    obtain ⟨x20, ex20⟩ : ∃ z, z = (l1 + 1) := ⟨_, rfl⟩
    replace hf := lt_i hf x20 ex20
    rw [← ex20]
    refine J_goto Z.1 153 dX13_init_168 (by decide) ?_
    refine J_lv [1, 0] rfl ?_
    exact hk153 _ _ _ M hf
def pX13_init_l153 (this : Nat) : Nat → Int32 → MT → CT → Option (MT × CT)
  | 0, _, _, _ => none
  | n + 1, l1, g, h => pX13_init_b153 this (pX13_init_l153 this n) l1 g h
theorem pX13_init_l153_ok {X : Cx} {G : Gx} {dk : Nat} {g0 : MT} {h0 : CT} {this : Nat} (Z : Zy X G cX13_init RX13 2 dk none none "<init>" g0 h0) (hK : 1 ≤ dk) : ∀ (n : Nat) (l1 : Int32) (g : MT) (h : CT), RM X g → pX13_init_l153 this n l1 g h = some (g0, h0) → J X g h 153 [(0, va_rf (some this)), (1, .int l1)] [] := by
  intro n
  induction n with
  | zero => intro l1 g h M hf; cases hf
  | succ n ih => intro l1 g h M hf; exact pX13_init_b153_ok Z hK ih l1 g h M hf
def pX13_init (g : MT) (h : CT) (this : Nat) : Option (MT × CT) := gq Prod.fst g (gq Prod.fst (gA g 20 4) (lt (gA g 20 4) fun g1 => (lt (hZ h (gN g)) fun h2 => (lt (gN g) fun a3 => (tg g1 this 12 (lt (sR h2 this 4 (some a3)) fun h7 => (gq Prod.fst (gA g1 20 4) (lt (gA g1 20 4) fun g8 => (lt (hZ h7 (gN g1)) fun h9 => (lt (gN g1) fun a10 => (tg g8 this 12 (lt (sR h9 this 5 (some a10)) fun h14 => (gq Prod.fst (gA g8 21 240) (lt (gA g8 21 240) fun g15 => (lt (hZ h14 (gN g8)) fun h16 => (lt (gN g8) fun a17 => (tg g15 this 12 (lt (sR h16 this 6 (some a17)) fun h21 => (gq Prod.fst (gA g15 23 900) (lt (gA g15 23 900) fun g22 => (lt (hZ h21 (gN g15)) fun h23 => (lt (gN g15) fun a24 => (tg g22 this 12 (lt (sR h23 this 7 (some a24)) fun h28 => (lt (sI h28 this 10 (-1)) fun h29 => (lt (sI h29 this 11 (-1)) fun h30 => (gq Prod.fst (gA g22 20 1476) (lt (gA g22 20 1476) fun g31 => (lt (hZ h30 (gN g22)) fun h32 => (lt (gN g22) fun a33 => (tg g31 this 12 (lt (sR h32 this 19 (some a33)) fun h37 => (gq Prod.fst (gA g31 22 984) (lt (gA g31 22 984) fun g38 => (lt (hZ h37 (gN g31)) fun h39 => (lt (gN g31) fun a40 => (tg g38 this 12 (lt (sR h39 this 20 (some a40)) fun h44 => (gq Prod.fst (gA g38 20 96) (lt (gA g38 20 96) fun g45 => (lt (hZ h44 (gN g38)) fun h46 => (lt (gN g38) fun a47 => (tg g45 this 12 (lt (sR h46 this 23 (some a47)) fun h51 => (gq Prod.fst (gA g45 20 96) (lt (gA g45 20 96) fun g52 => (lt (hZ h51 (gN g45)) fun h53 => (lt (gN g45) fun a54 => (tg g52 this 12 (lt (sR h53 this 24 (some a54)) fun h58 => (gq Prod.fst (gA g52 20 4) (lt (gA g52 20 4) fun g59 => (lt (hZ h58 (gN g52)) fun h60 => (lt (gN g52) fun a61 => (tg g59 this 12 (lt (sR h60 this 25 (some a61)) fun h65 => (gq Prod.fst (gA g59 20 16) (lt (gA g59 20 16) fun g66 => (lt (hZ h65 (gN g59)) fun h67 => (lt (gN g59) fun a68 => (tg g66 this 12 (lt (sR h67 this 26 (some a68)) fun h72 => (gq Prod.fst (gA g66 20 30) (lt (gA g66 20 30) fun g73 => (lt (hZ h72 (gN g66)) fun h74 => (lt (gN g66) fun a75 => (tg g73 this 12 (lt (sR h74 this 27 (some a75)) fun h79 => (gq Prod.fst (gA g73 20 30) (lt (gA g73 20 30) fun g80 => (lt (hZ h79 (gN g73)) fun h81 => (lt (gN g73) fun a82 => (tg g80 this 12 (lt (sR h81 this 28 (some a82)) fun h86 => (gq Prod.fst (gA g80 22 16) (lt (gA g80 22 16) fun g87 => (lt (hZ h86 (gN g80)) fun h88 => (lt (gN g80) fun a89 => (tg g87 this 12 (lt (sR h88 this 43 (some a89)) fun h93 => (gq Prod.fst (gA g87 20 6) (lt (gA g87 20 6) fun g94 => (lt (hZ h93 (gN g87)) fun h95 => (lt (gN g87) fun a96 => (tg g94 this 12 (lt (sR h95 this 45 (some a96)) fun h100 => (gq Prod.fst (gA g94 20 30) (lt (gA g94 20 30) fun g101 => (lt (hZ h100 (gN g94)) fun h102 => (lt (gN g94) fun a103 => (tg g101 this 12 (lt (sR h102 this 46 (some a103)) fun h107 => (gq Prod.fst (gA g101 20 30) (lt (gA g101 20 30) fun g108 => (lt (hZ h107 (gN g101)) fun h109 => (lt (gN g101) fun a110 => (tg g108 this 12 (lt (sR h109 this 47 (some a110)) fun h114 => (gq Prod.fst (gA g108 20 16) (lt (gA g108 20 16) fun g115 => (lt (hZ h114 (gN g108)) fun h116 => (lt (gN g108) fun a117 => (tg g115 this 12 (lt (sR h116 this 50 (some a117)) fun h121 => (pX13_init_l153 this  FUEL 0 g115 h121)))))))))))))))))))))))))))))))))))))))))))))))))))))))))))))))))))))))))))))))))))))))))))))))))))))))))
theorem pX13_init_mono {g g0 : MT} {h h0 : CT} {this : Nat} (hf : pX13_init g h this = some (g0, h0)) : gN g ≤ gN g0 ∧ gU g ≤ gU g0 := by
  unfold pX13_init at hf
  exact (gq_i hf).1
set_option maxRecDepth 10000 in
set_option maxHeartbeats 4000000 in
theorem pX13_init_ok (G : Gx) (dk : Nat) (hK : 1 ≤ dk) {g g0 : MT} {h h0 : CT} {this : Nat} (hf : pX13_init g h this = some (g0, h0)) : Ctr G dk yX13_init cX13_init 2 none [va_rf (some this)] g h none g0 h0 := by
  unfold pX13_init at hf
  replace hf := gq_i hf
  obtain ⟨hm, hf⟩ := hf
  refine Ctr.ofY (lv := [(0, va_rf (some this))]) (by decide +kernel) (by simp [cat_i, cat_l, cat_d, cat_rf]) rfl hm fun X Z M => ?_
  refine J_aload_n Z.1 0 dX13_init_0 rfl rfl ?_
  refine J_objInit Z.1 dX13_init_1 q_1399 q_168 q_169 (yO2 Z (by omega) (by simp [cat_i, cat_l, cat_d, cat_rf])) (yF Z (d := 0) (by omega)) ?_
  refine J_aload_n Z.1 0 dX13_init_4 rfl rfl ?_
  refine J_iconst Z.1 (v := 4) (by decide) dX13_init_5 ?_
  replace hf := gq_i hf
  obtain ⟨n4, hf⟩ := hf
  have M5 := rmA Z M n4
  refine J_newa (t := 0) (N := 4) .int Z.1 dX13_init_6 rfl rfl (by decide) (fun _ q => by cases q) q_485 (by decide) (by decide) (by decide) M M5 ?_
  refine J_tg (fun g1 eg1 => ?_)
  rw [← eg1] at M5
  replace hf := lt_i hf g1 eg1
  refine J_th (fun h2 eh2 => ?_)
  replace hf := lt_i hf h2 eh2
  refine J_ta (fun a3 ea3 => ?_)
  replace hf := lt_i hf a3 ea3
  replace hf := tg_i hf
  obtain ⟨t6, hf⟩ := hf
  refine J_putR Z.1 dX13_init_8 fl_X13_7 (fun _ => ⟨Z.2.2.2.2.2.2.2, _, rfl, rfl⟩) t6 (Or.inr ⟨_, rfl⟩) ?_
  refine J_th (fun h7 eh7 => ?_)
  replace hf := lt_i hf h7 eh7
  refine J_aload_n Z.1 0 dX13_init_11 rfl rfl ?_
  refine J_iconst Z.1 (v := 4) (by decide) dX13_init_12 ?_
  replace hf := gq_i hf
  obtain ⟨n11, hf⟩ := hf
  have M12 := rmA Z M5 n11
  refine J_newa (t := 0) (N := 4) .int Z.1 dX13_init_13 rfl rfl (by decide) (fun _ q => by cases q) q_485 (by decide) (by decide) (by decide) M5 M12 ?_
  refine J_tg (fun g8 eg8 => ?_)
  rw [← eg8] at M12
  replace hf := lt_i hf g8 eg8
  refine J_th (fun h9 eh9 => ?_)
  replace hf := lt_i hf h9 eh9
  refine J_ta (fun a10 ea10 => ?_)
  replace hf := lt_i hf a10 ea10
  replace hf := tg_i hf
  obtain ⟨t13, hf⟩ := hf
  refine J_putR Z.1 dX13_init_15 fl_X13_13 (fun _ => ⟨Z.2.2.2.2.2.2.2, _, rfl, rfl⟩) t13 (Or.inr ⟨_, rfl⟩) ?_
  refine J_th (fun h14 eh14 => ?_)
  replace hf := lt_i hf h14 eh14
  refine J_aload_n Z.1 0 dX13_init_18 rfl rfl ?_
  refine J_sipush Z.1 (v := 240) (by decide) dX13_init_19 ?_
  replace hf := gq_i hf
  obtain ⟨n18, hf⟩ := hf
  have M19 := rmA Z M12 n18
  refine J_newa (t := 1) (N := 240) .long Z.1 dX13_init_22 rfl rfl (by decide) (fun _ q => by cases q) q_194 (by decide) (by decide) (by decide) M12 M19 ?_
  refine J_tg (fun g15 eg15 => ?_)
  rw [← eg15] at M19
  replace hf := lt_i hf g15 eg15
  refine J_th (fun h16 eh16 => ?_)
  replace hf := lt_i hf h16 eh16
  refine J_ta (fun a17 ea17 => ?_)
  replace hf := lt_i hf a17 ea17
  replace hf := tg_i hf
  obtain ⟨t20, hf⟩ := hf
  refine J_putR Z.1 dX13_init_24 fl_X13_16 (fun _ => ⟨Z.2.2.2.2.2.2.2, _, rfl, rfl⟩) t20 (Or.inr ⟨_, rfl⟩) ?_
  refine J_th (fun h21 eh21 => ?_)
  replace hf := lt_i hf h21 eh21
  refine J_aload_n Z.1 0 dX13_init_27 rfl rfl ?_
  refine J_sipush Z.1 (v := 900) (by decide) dX13_init_28 ?_
  replace hf := gq_i hf
  obtain ⟨n25, hf⟩ := hf
  have M26 := rmA Z M19 n25
  refine J_newa (t := 3) (N := 900) .byte Z.1 dX13_init_31 rfl rfl (by decide) (fun _ q => by cases q) q_241 (by decide) (by decide) (by decide) M19 M26 ?_
  refine J_tg (fun g22 eg22 => ?_)
  rw [← eg22] at M26
  replace hf := lt_i hf g22 eg22
  refine J_th (fun h23 eh23 => ?_)
  replace hf := lt_i hf h23 eh23
  refine J_ta (fun a24 ea24 => ?_)
  replace hf := lt_i hf a24 ea24
  replace hf := tg_i hf
  obtain ⟨t27, hf⟩ := hf
  refine J_putR Z.1 dX13_init_33 fl_X13_20 (fun _ => ⟨Z.2.2.2.2.2.2.2, _, rfl, rfl⟩) t27 (Or.inr ⟨_, rfl⟩) ?_
  refine J_th (fun h28 eh28 => ?_)
  replace hf := lt_i hf h28 eh28
  refine J_aload_n Z.1 0 dX13_init_36 rfl rfl ?_
  refine J_iconst Z.1 (v := (-1)) (by decide) dX13_init_37 ?_
  refine J_putI Z.1 dX13_init_38 fl_X13_24 (fun q => by cases q) t27 rfl rfl (congrArg Value.int (hI_s _ _ _ _)) ?_
  refine J_th (fun h29 eh29 => ?_)
  replace hf := lt_i hf h29 eh29
  refine J_aload_n Z.1 0 dX13_init_41 rfl rfl ?_
  refine J_iconst Z.1 (v := (-1)) (by decide) dX13_init_42 ?_
  refine J_putI Z.1 dX13_init_43 fl_X13_28 (fun q => by cases q) t27 rfl rfl (congrArg Value.int (hI_s _ _ _ _)) ?_
  refine J_th (fun h30 eh30 => ?_)
  replace hf := lt_i hf h30 eh30
  refine J_aload_n Z.1 0 dX13_init_46 rfl rfl ?_
  refine J_sipush Z.1 (v := 1476) (by decide) dX13_init_47 ?_
  replace hf := gq_i hf
  obtain ⟨n34, hf⟩ := hf
  have M35 := rmA Z M26 n34
  refine J_newa (t := 0) (N := 1476) .int Z.1 dX13_init_50 rfl rfl (by decide) (fun _ q => by cases q) q_485 (by decide) (by decide) (by decide) M26 M35 ?_
  refine J_tg (fun g31 eg31 => ?_)
  rw [← eg31] at M35
  replace hf := lt_i hf g31 eg31
  refine J_th (fun h32 eh32 => ?_)
  replace hf := lt_i hf h32 eh32
  refine J_ta (fun a33 ea33 => ?_)
  replace hf := lt_i hf a33 ea33
  replace hf := tg_i hf
  obtain ⟨t36, hf⟩ := hf
  refine J_putR Z.1 dX13_init_52 fl_X13_31 (fun _ => ⟨Z.2.2.2.2.2.2.2, _, rfl, rfl⟩) t36 (Or.inr ⟨_, rfl⟩) ?_
  refine J_th (fun h37 eh37 => ?_)
  replace hf := lt_i hf h37 eh37
  refine J_aload_n Z.1 0 dX13_init_55 rfl rfl ?_
  refine J_sipush Z.1 (v := 984) (by decide) dX13_init_56 ?_
  replace hf := gq_i hf
  obtain ⟨n41, hf⟩ := hf
  have M42 := rmA Z M35 n41
  refine J_newa (t := 2) (N := 984) .double Z.1 dX13_init_59 rfl rfl (by decide) (fun _ q => by cases q) q_265 (by decide) (by decide) (by decide) M35 M42 ?_
  refine J_tg (fun g38 eg38 => ?_)
  rw [← eg38] at M42
  replace hf := lt_i hf g38 eg38
  refine J_th (fun h39 eh39 => ?_)
  replace hf := lt_i hf h39 eh39
  refine J_ta (fun a40 ea40 => ?_)
  replace hf := lt_i hf a40 ea40
  replace hf := tg_i hf
  obtain ⟨t43, hf⟩ := hf
  refine J_putR Z.1 dX13_init_61 fl_X13_34 (fun _ => ⟨Z.2.2.2.2.2.2.2, _, rfl, rfl⟩) t43 (Or.inr ⟨_, rfl⟩) ?_
  refine J_th (fun h44 eh44 => ?_)
  replace hf := lt_i hf h44 eh44
  refine J_aload_n Z.1 0 dX13_init_64 rfl rfl ?_
  refine J_bipush Z.1 (v := 96) (by decide) dX13_init_65 ?_
  replace hf := gq_i hf
  obtain ⟨n48, hf⟩ := hf
  have M49 := rmA Z M42 n48
  refine J_newa (t := 0) (N := 96) .int Z.1 dX13_init_67 rfl rfl (by decide) (fun _ q => by cases q) q_485 (by decide) (by decide) (by decide) M42 M49 ?_
  refine J_tg (fun g45 eg45 => ?_)
  rw [← eg45] at M49
  replace hf := lt_i hf g45 eg45
  refine J_th (fun h46 eh46 => ?_)
  replace hf := lt_i hf h46 eh46
  refine J_ta (fun a47 ea47 => ?_)
  replace hf := lt_i hf a47 ea47
  replace hf := tg_i hf
  obtain ⟨t50, hf⟩ := hf
  refine J_putR Z.1 dX13_init_69 fl_X13_38 (fun _ => ⟨Z.2.2.2.2.2.2.2, _, rfl, rfl⟩) t50 (Or.inr ⟨_, rfl⟩) ?_
  refine J_th (fun h51 eh51 => ?_)
  replace hf := lt_i hf h51 eh51
  refine J_aload_n Z.1 0 dX13_init_72 rfl rfl ?_
  refine J_bipush Z.1 (v := 96) (by decide) dX13_init_73 ?_
  replace hf := gq_i hf
  obtain ⟨n55, hf⟩ := hf
  have M56 := rmA Z M49 n55
  refine J_newa (t := 0) (N := 96) .int Z.1 dX13_init_75 rfl rfl (by decide) (fun _ q => by cases q) q_485 (by decide) (by decide) (by decide) M49 M56 ?_
  refine J_tg (fun g52 eg52 => ?_)
  rw [← eg52] at M56
  replace hf := lt_i hf g52 eg52
  refine J_th (fun h53 eh53 => ?_)
  replace hf := lt_i hf h53 eh53
  refine J_ta (fun a54 ea54 => ?_)
  replace hf := lt_i hf a54 ea54
  replace hf := tg_i hf
  obtain ⟨t57, hf⟩ := hf
  refine J_putR Z.1 dX13_init_77 fl_X13_41 (fun _ => ⟨Z.2.2.2.2.2.2.2, _, rfl, rfl⟩) t57 (Or.inr ⟨_, rfl⟩) ?_
  refine J_th (fun h58 eh58 => ?_)
  replace hf := lt_i hf h58 eh58
  refine J_aload_n Z.1 0 dX13_init_80 rfl rfl ?_
  refine J_iconst Z.1 (v := 4) (by decide) dX13_init_81 ?_
  replace hf := gq_i hf
  obtain ⟨n62, hf⟩ := hf
  have M63 := rmA Z M56 n62
  refine J_newa (t := 0) (N := 4) .int Z.1 dX13_init_82 rfl rfl (by decide) (fun _ q => by cases q) q_485 (by decide) (by decide) (by decide) M56 M63 ?_
  refine J_tg (fun g59 eg59 => ?_)
  rw [← eg59] at M63
  replace hf := lt_i hf g59 eg59
  refine J_th (fun h60 eh60 => ?_)
  replace hf := lt_i hf h60 eh60
  refine J_ta (fun a61 ea61 => ?_)
  replace hf := lt_i hf a61 ea61
  replace hf := tg_i hf
  obtain ⟨t64, hf⟩ := hf
  refine J_putR Z.1 dX13_init_84 fl_X13_44 (fun _ => ⟨Z.2.2.2.2.2.2.2, _, rfl, rfl⟩) t64 (Or.inr ⟨_, rfl⟩) ?_
  refine J_th (fun h65 eh65 => ?_)
  replace hf := lt_i hf h65 eh65
  refine J_aload_n Z.1 0 dX13_init_87 rfl rfl ?_
  refine J_bipush Z.1 (v := 16) (by decide) dX13_init_88 ?_
  replace hf := gq_i hf
  obtain ⟨n69, hf⟩ := hf
  have M70 := rmA Z M63 n69
  refine J_newa (t := 0) (N := 16) .int Z.1 dX13_init_90 rfl rfl (by decide) (fun _ q => by cases q) q_485 (by decide) (by decide) (by decide) M63 M70 ?_
  refine J_tg (fun g66 eg66 => ?_)
  rw [← eg66] at M70
  replace hf := lt_i hf g66 eg66
  refine J_th (fun h67 eh67 => ?_)
  replace hf := lt_i hf h67 eh67
  refine J_ta (fun a68 ea68 => ?_)
  replace hf := lt_i hf a68 ea68
  replace hf := tg_i hf
  obtain ⟨t71, hf⟩ := hf
  refine J_putR Z.1 dX13_init_92 fl_X13_47 (fun _ => ⟨Z.2.2.2.2.2.2.2, _, rfl, rfl⟩) t71 (Or.inr ⟨_, rfl⟩) ?_
  refine J_th (fun h72 eh72 => ?_)
  replace hf := lt_i hf h72 eh72
  refine J_aload_n Z.1 0 dX13_init_95 rfl rfl ?_
  refine J_bipush Z.1 (v := 30) (by decide) dX13_init_96 ?_
  replace hf := gq_i hf
  obtain ⟨n76, hf⟩ := hf
  have M77 := rmA Z M70 n76
  refine J_newa (t := 0) (N := 30) .int Z.1 dX13_init_98 rfl rfl (by decide) (fun _ q => by cases q) q_485 (by decide) (by decide) (by decide) M70 M77 ?_
  refine J_tg (fun g73 eg73 => ?_)
  rw [← eg73] at M77
  replace hf := lt_i hf g73 eg73
  refine J_th (fun h74 eh74 => ?_)
  replace hf := lt_i hf h74 eh74
  refine J_ta (fun a75 ea75 => ?_)
  replace hf := lt_i hf a75 ea75
  replace hf := tg_i hf
  obtain ⟨t78, hf⟩ := hf
  refine J_putR Z.1 dX13_init_100 fl_X13_50 (fun _ => ⟨Z.2.2.2.2.2.2.2, _, rfl, rfl⟩) t78 (Or.inr ⟨_, rfl⟩) ?_
  refine J_th (fun h79 eh79 => ?_)
  replace hf := lt_i hf h79 eh79
  refine J_aload_n Z.1 0 dX13_init_103 rfl rfl ?_
  refine J_bipush Z.1 (v := 30) (by decide) dX13_init_104 ?_
  replace hf := gq_i hf
  obtain ⟨n83, hf⟩ := hf
  have M84 := rmA Z M77 n83
  refine J_newa (t := 0) (N := 30) .int Z.1 dX13_init_106 rfl rfl (by decide) (fun _ q => by cases q) q_485 (by decide) (by decide) (by decide) M77 M84 ?_
  refine J_tg (fun g80 eg80 => ?_)
  rw [← eg80] at M84
  replace hf := lt_i hf g80 eg80
  refine J_th (fun h81 eh81 => ?_)
  replace hf := lt_i hf h81 eh81
  refine J_ta (fun a82 ea82 => ?_)
  replace hf := lt_i hf a82 ea82
  replace hf := tg_i hf
  obtain ⟨t85, hf⟩ := hf
  refine J_putR Z.1 dX13_init_108 fl_X13_53 (fun _ => ⟨Z.2.2.2.2.2.2.2, _, rfl, rfl⟩) t85 (Or.inr ⟨_, rfl⟩) ?_
  refine J_th (fun h86 eh86 => ?_)
  replace hf := lt_i hf h86 eh86
  refine J_aload_n Z.1 0 dX13_init_111 rfl rfl ?_
  refine J_bipush Z.1 (v := 16) (by decide) dX13_init_112 ?_
  replace hf := gq_i hf
  obtain ⟨n90, hf⟩ := hf
  have M91 := rmA Z M84 n90
  refine J_newa (t := 2) (N := 16) .double Z.1 dX13_init_114 rfl rfl (by decide) (fun _ q => by cases q) q_265 (by decide) (by decide) (by decide) M84 M91 ?_
  refine J_tg (fun g87 eg87 => ?_)
  rw [← eg87] at M91
  replace hf := lt_i hf g87 eg87
  refine J_th (fun h88 eh88 => ?_)
  replace hf := lt_i hf h88 eh88
  refine J_ta (fun a89 ea89 => ?_)
  replace hf := lt_i hf a89 ea89
  replace hf := tg_i hf
  obtain ⟨t92, hf⟩ := hf
  refine J_putR Z.1 dX13_init_116 fl_X13_56 (fun _ => ⟨Z.2.2.2.2.2.2.2, _, rfl, rfl⟩) t92 (Or.inr ⟨_, rfl⟩) ?_
  refine J_th (fun h93 eh93 => ?_)
  replace hf := lt_i hf h93 eh93
  refine J_aload_n Z.1 0 dX13_init_119 rfl rfl ?_
  refine J_bipush Z.1 (v := 6) (by decide) dX13_init_120 ?_
  replace hf := gq_i hf
  obtain ⟨n97, hf⟩ := hf
  have M98 := rmA Z M91 n97
  refine J_newa (t := 0) (N := 6) .int Z.1 dX13_init_122 rfl rfl (by decide) (fun _ q => by cases q) q_485 (by decide) (by decide) (by decide) M91 M98 ?_
  refine J_tg (fun g94 eg94 => ?_)
  rw [← eg94] at M98
  replace hf := lt_i hf g94 eg94
  refine J_th (fun h95 eh95 => ?_)
  replace hf := lt_i hf h95 eh95
  refine J_ta (fun a96 ea96 => ?_)
  replace hf := lt_i hf a96 ea96
  replace hf := tg_i hf
  obtain ⟨t99, hf⟩ := hf
  refine J_putR Z.1 dX13_init_124 fl_X13_59 (fun _ => ⟨Z.2.2.2.2.2.2.2, _, rfl, rfl⟩) t99 (Or.inr ⟨_, rfl⟩) ?_
  refine J_th (fun h100 eh100 => ?_)
  replace hf := lt_i hf h100 eh100
  refine J_aload_n Z.1 0 dX13_init_127 rfl rfl ?_
  refine J_bipush Z.1 (v := 30) (by decide) dX13_init_128 ?_
  replace hf := gq_i hf
  obtain ⟨n104, hf⟩ := hf
  have M105 := rmA Z M98 n104
  refine J_newa (t := 0) (N := 30) .int Z.1 dX13_init_130 rfl rfl (by decide) (fun _ q => by cases q) q_485 (by decide) (by decide) (by decide) M98 M105 ?_
  refine J_tg (fun g101 eg101 => ?_)
  rw [← eg101] at M105
  replace hf := lt_i hf g101 eg101
  refine J_th (fun h102 eh102 => ?_)
  replace hf := lt_i hf h102 eh102
  refine J_ta (fun a103 ea103 => ?_)
  replace hf := lt_i hf a103 ea103
  replace hf := tg_i hf
  obtain ⟨t106, hf⟩ := hf
  refine J_putR Z.1 dX13_init_132 fl_X13_62 (fun _ => ⟨Z.2.2.2.2.2.2.2, _, rfl, rfl⟩) t106 (Or.inr ⟨_, rfl⟩) ?_
  refine J_th (fun h107 eh107 => ?_)
  replace hf := lt_i hf h107 eh107
  refine J_aload_n Z.1 0 dX13_init_135 rfl rfl ?_
  refine J_bipush Z.1 (v := 30) (by decide) dX13_init_136 ?_
  replace hf := gq_i hf
  obtain ⟨n111, hf⟩ := hf
  have M112 := rmA Z M105 n111
  refine J_newa (t := 0) (N := 30) .int Z.1 dX13_init_138 rfl rfl (by decide) (fun _ q => by cases q) q_485 (by decide) (by decide) (by decide) M105 M112 ?_
  refine J_tg (fun g108 eg108 => ?_)
  rw [← eg108] at M112
  replace hf := lt_i hf g108 eg108
  refine J_th (fun h109 eh109 => ?_)
  replace hf := lt_i hf h109 eh109
  refine J_ta (fun a110 ea110 => ?_)
  replace hf := lt_i hf a110 ea110
  replace hf := tg_i hf
  obtain ⟨t113, hf⟩ := hf
  refine J_putR Z.1 dX13_init_140 fl_X13_65 (fun _ => ⟨Z.2.2.2.2.2.2.2, _, rfl, rfl⟩) t113 (Or.inr ⟨_, rfl⟩) ?_
  refine J_th (fun h114 eh114 => ?_)
  replace hf := lt_i hf h114 eh114
  refine J_aload_n Z.1 0 dX13_init_143 rfl rfl ?_
  refine J_bipush Z.1 (v := 16) (by decide) dX13_init_144 ?_
  replace hf := gq_i hf
  obtain ⟨n118, hf⟩ := hf
  have M119 := rmA Z M112 n118
  refine J_newa (t := 0) (N := 16) .int Z.1 dX13_init_146 rfl rfl (by decide) (fun _ q => by cases q) q_485 (by decide) (by decide) (by decide) M112 M119 ?_
  refine J_tg (fun g115 eg115 => ?_)
  rw [← eg115] at M119
  replace hf := lt_i hf g115 eg115
  refine J_th (fun h116 eh116 => ?_)
  replace hf := lt_i hf h116 eh116
  refine J_ta (fun a117 ea117 => ?_)
  replace hf := lt_i hf a117 ea117
  replace hf := tg_i hf
  obtain ⟨t120, hf⟩ := hf
  refine J_putR Z.1 dX13_init_148 fl_X13_68 (fun _ => ⟨Z.2.2.2.2.2.2.2, _, rfl, rfl⟩) t120 (Or.inr ⟨_, rfl⟩) ?_
  refine J_th (fun h121 eh121 => ?_)
  replace hf := lt_i hf h121 eh121
  refine J_iconst Z.1 (v := 0) (by decide) dX13_init_151 ?_
  refine J_istore_n Z.1 (lv2 := [(1, .int 0), (0, va_rf (some this))]) dX13_init_152 rfl (yL Z (by decide)) rfl ?_
  refine J_lv [1, 0] rfl ?_
  exact pX13_init_l153_ok Z hK  FUEL _ _ _ M119 hf
theorem dX13_status_0 : decode cX13_status 0 = .ok (.aload_n 0, 1) := by decide +kernel
theorem dX13_status_1 : decode cX13_status 1 = .ok (.iconst 0, 1) := by decide +kernel
theorem dX13_status_2 : decode cX13_status 2 = .ok (.putfield 71, 3) := by decide +kernel
theorem dX13_status_5 : decode cX13_status 5 = .ok (.aload_n 0, 1) := by decide +kernel
theorem dX13_status_6 : decode cX13_status 6 = .ok (.getfield 74, 3) := by decide +kernel
theorem dX13_status_9 : decode cX13_status 9 = .ok (.ireturn, 1) := by decide +kernel
def pX13_status (g : MT) (h : CT) (this : Nat) : Option ((Int32) × CT) := tg g this 12 (lt (sI h this 1 0) fun h1 => (some ((hI h1 this 0), h1)))
set_option maxRecDepth 10000 in
set_option maxHeartbeats 4000000 in
theorem pX13_status_ok (G : Gx) (dk : Nat) (hK : 0 ≤ dk) {g : MT} {h h0 : CT} {this : Nat} {r0 : Int32} (hf : pX13_status g h this = some (r0, h0)) : Ctr G dk yX13_status cX13_status 1 (some .int) [va_rf (some this)] g h (some (.int r0)) g h0 := by
  refine Ctr.ofZ (lv := [(0, va_rf (some this))]) (by decide +kernel) (by simp [cat_i, cat_l, cat_d, cat_rf]) rfl fun X Z => ?_
  unfold pX13_status at hf
  replace hf := tg_i hf
  obtain ⟨t0, hf⟩ := hf
  refine J_aload_n Z.1 0 dX13_status_0 rfl rfl ?_
  refine J_iconst Z.1 (v := 0) (by decide) dX13_status_1 ?_
  refine J_putI Z.1 dX13_status_2 fl_X13_71 (fun q => by cases q) t0 rfl rfl (congrArg Value.int (hI_s _ _ _ _)) ?_
  refine J_th (fun h1 eh1 => ?_)
  replace hf := lt_i hf h1 eh1
  refine J_aload_n Z.1 0 dX13_status_5 rfl rfl ?_
  refine J_get (v := .int (hI h1 this 0)) Z.1 dX13_status_6 fl_X13_74 t0 rfl ?_
  cases hf
  exact J_iret Z.1 Z.2.2.2.2.2 dX13_status_9
theorem dX13_mantissa_0 : decode cX13_mantissa 0 = .ok (.aload_n 0, 1) := by decide +kernel
theorem dX13_mantissa_1 : decode cX13_mantissa 1 = .ok (.iconst 0, 1) := by decide +kernel
theorem dX13_mantissa_2 : decode cX13_mantissa 2 = .ok (.putfield 71, 3) := by decide +kernel
theorem dX13_mantissa_5 : decode cX13_mantissa 5 = .ok (.aload_n 0, 1) := by decide +kernel
theorem dX13_mantissa_6 : decode cX13_mantissa 6 = .ok (.getfield 77, 3) := by decide +kernel
theorem dX13_mantissa_9 : decode cX13_mantissa 9 = .ok (.lreturn, 1) := by decide +kernel
def pX13_mantissa (g : MT) (h : CT) (this : Nat) : Option ((Int64) × CT) := tg g this 12 (lt (sI h this 1 0) fun h1 => (some ((hL h1 this 2), h1)))
set_option maxRecDepth 10000 in
set_option maxHeartbeats 4000000 in
theorem pX13_mantissa_ok (G : Gx) (dk : Nat) (hK : 0 ≤ dk) {g : MT} {h h0 : CT} {this : Nat} {r0 : Int64} (hf : pX13_mantissa g h this = some (r0, h0)) : Ctr G dk yX13_mantissa cX13_mantissa 1 (some .long) [va_rf (some this)] g h (some (.long r0)) g h0 := by
  refine Ctr.ofZ (lv := [(0, va_rf (some this))]) (by decide +kernel) (by simp [cat_i, cat_l, cat_d, cat_rf]) rfl fun X Z => ?_
  unfold pX13_mantissa at hf
  replace hf := tg_i hf
  obtain ⟨t0, hf⟩ := hf
  refine J_aload_n Z.1 0 dX13_mantissa_0 rfl rfl ?_
  refine J_iconst Z.1 (v := 0) (by decide) dX13_mantissa_1 ?_
  refine J_putI Z.1 dX13_mantissa_2 fl_X13_71 (fun q => by cases q) t0 rfl rfl (congrArg Value.int (hI_s _ _ _ _)) ?_
  refine J_th (fun h1 eh1 => ?_)
  replace hf := lt_i hf h1 eh1
  refine J_aload_n Z.1 0 dX13_mantissa_5 rfl rfl ?_
  refine J_get (v := .long (hL h1 this 2)) Z.1 dX13_mantissa_6 fl_X13_77 t0 rfl ?_
  cases hf
  exact J_lret Z.1 Z.2.2.2.2.2 dX13_mantissa_9
theorem dX13_exponent_0 : decode cX13_exponent 0 = .ok (.aload_n 0, 1) := by decide +kernel
theorem dX13_exponent_1 : decode cX13_exponent 1 = .ok (.iconst 0, 1) := by decide +kernel
theorem dX13_exponent_2 : decode cX13_exponent 2 = .ok (.putfield 71, 3) := by decide +kernel
theorem dX13_exponent_5 : decode cX13_exponent 5 = .ok (.aload_n 0, 1) := by decide +kernel
theorem dX13_exponent_6 : decode cX13_exponent 6 = .ok (.getfield 81, 3) := by decide +kernel
theorem dX13_exponent_9 : decode cX13_exponent 9 = .ok (.ireturn, 1) := by decide +kernel
def pX13_exponent (g : MT) (h : CT) (this : Nat) : Option ((Int32) × CT) := tg g this 12 (lt (sI h this 1 0) fun h1 => (some ((hI h1 this 3), h1)))
set_option maxRecDepth 10000 in
set_option maxHeartbeats 4000000 in
theorem pX13_exponent_ok (G : Gx) (dk : Nat) (hK : 0 ≤ dk) {g : MT} {h h0 : CT} {this : Nat} {r0 : Int32} (hf : pX13_exponent g h this = some (r0, h0)) : Ctr G dk yX13_exponent cX13_exponent 1 (some .int) [va_rf (some this)] g h (some (.int r0)) g h0 := by
  refine Ctr.ofZ (lv := [(0, va_rf (some this))]) (by decide +kernel) (by simp [cat_i, cat_l, cat_d, cat_rf]) rfl fun X Z => ?_
  unfold pX13_exponent at hf
  replace hf := tg_i hf
  obtain ⟨t0, hf⟩ := hf
  refine J_aload_n Z.1 0 dX13_exponent_0 rfl rfl ?_
  refine J_iconst Z.1 (v := 0) (by decide) dX13_exponent_1 ?_
  refine J_putI Z.1 dX13_exponent_2 fl_X13_71 (fun q => by cases q) t0 rfl rfl (congrArg Value.int (hI_s _ _ _ _)) ?_
  refine J_th (fun h1 eh1 => ?_)
  replace hf := lt_i hf h1 eh1
  refine J_aload_n Z.1 0 dX13_exponent_5 rfl rfl ?_
  refine J_get (v := .int (hI h1 this 3)) Z.1 dX13_exponent_6 fl_X13_81 t0 rfl ?_
  cases hf
  exact J_iret Z.1 Z.2.2.2.2.2 dX13_exponent_9
theorem dX13_refuse_0 : decode cX13_refuse 0 = .ok (.aload_n 0, 1) := by decide +kernel
theorem dX13_refuse_1 : decode cX13_refuse 1 = .ok (.iload_n 1, 1) := by decide +kernel
theorem dX13_refuse_2 : decode cX13_refuse 2 = .ok (.putfield 74, 3) := by decide +kernel
theorem dX13_refuse_5 : decode cX13_refuse 5 = .ok (.iconst (-1), 1) := by decide +kernel
theorem dX13_refuse_6 : decode cX13_refuse 6 = .ok (.ireturn, 1) := by decide +kernel
def pX13_refuse (g : MT) (h : CT) (this : Nat) (p1 : Int32) : Option ((Int32) × CT) := tg g this 12 (lt (sI h this 0 p1) fun h1 => (some ((-1), h1)))
set_option maxRecDepth 10000 in
set_option maxHeartbeats 4000000 in
theorem pX13_refuse_ok (G : Gx) (dk : Nat) (hK : 0 ≤ dk) {g : MT} {h h0 : CT} {this : Nat} {p1 : Int32} {r0 : Int32} (hf : pX13_refuse g h this p1 = some (r0, h0)) : Ctr G dk yX13_refuse cX13_refuse 2 (some .int) [va_rf (some this), .int p1] g h (some (.int r0)) g h0 := by
  refine Ctr.ofZ (lv := [(0, va_rf (some this)), (1, .int p1)]) (by decide +kernel) (by simp [cat_i, cat_l, cat_d, cat_rf]) rfl fun X Z => ?_
  unfold pX13_refuse at hf
  replace hf := tg_i hf
  obtain ⟨t0, hf⟩ := hf
  refine J_aload_n Z.1 0 dX13_refuse_0 rfl rfl ?_
  refine J_iload_n Z.1 1 dX13_refuse_1 rfl rfl ?_
  refine J_putI Z.1 dX13_refuse_2 fl_X13_74 (fun q => by cases q) t0 rfl rfl (congrArg Value.int (hI_s _ _ _ _)) ?_
  refine J_th (fun h1 eh1 => ?_)
  replace hf := lt_i hf h1 eh1
  refine J_iconst Z.1 (v := (-1)) (by decide) dX13_refuse_5 ?_
  cases hf
  exact J_iret Z.1 Z.2.2.2.2.2 dX13_refuse_6
theorem dX13_no_0 : decode cX13_no 0 = .ok (.aload_n 0, 1) := by decide +kernel
theorem dX13_no_1 : decode cX13_no 1 = .ok (.iload_n 1, 1) := by decide +kernel
theorem dX13_no_2 : decode cX13_no 2 = .ok (.putfield 74, 3) := by decide +kernel
theorem dX13_no_5 : decode cX13_no 5 = .ok (.iconst 0, 1) := by decide +kernel
theorem dX13_no_6 : decode cX13_no 6 = .ok (.ireturn, 1) := by decide +kernel
def pX13_no (g : MT) (h : CT) (this : Nat) (p1 : Int32) : Option ((Int32) × CT) := tg g this 12 (lt (sI h this 0 p1) fun h1 => (some (0, h1)))
set_option maxRecDepth 10000 in
set_option maxHeartbeats 4000000 in
theorem pX13_no_ok (G : Gx) (dk : Nat) (hK : 0 ≤ dk) {g : MT} {h h0 : CT} {this : Nat} {p1 : Int32} {r0 : Int32} (hf : pX13_no g h this p1 = some (r0, h0)) : Ctr G dk yX13_no cX13_no 2 (some .boolean) [va_rf (some this), .int p1] g h (some (.int r0)) g h0 := by
  refine Ctr.ofZ (lv := [(0, va_rf (some this)), (1, .int p1)]) (by decide +kernel) (by simp [cat_i, cat_l, cat_d, cat_rf]) rfl fun X Z => ?_
  unfold pX13_no at hf
  replace hf := tg_i hf
  obtain ⟨t0, hf⟩ := hf
  refine J_aload_n Z.1 0 dX13_no_0 rfl rfl ?_
  refine J_iload_n Z.1 1 dX13_no_1 rfl rfl ?_
  refine J_putI Z.1 dX13_no_2 fl_X13_74 (fun q => by cases q) t0 rfl rfl (congrArg Value.int (hI_s _ _ _ _)) ?_
  refine J_th (fun h1 eh1 => ?_)
  replace hf := lt_i hf h1 eh1
  refine J_iconst Z.1 (v := 0) (by decide) dX13_no_5 ?_
  cases hf
  exact J_zret Z.1 Z.2.2.2.2.2 (z_n (Or.inl rfl)) dX13_no_6
theorem dX13_isIn_0 : decode cX13_isIn 0 = .ok (.lload_n 0, 1) := by decide +kernel
theorem dX13_isIn_1 : decode cX13_isIn 1 = .ok (.lload_n 2, 1) := by decide +kernel
theorem dX13_isIn_2 : decode cX13_isIn 2 = .ok (.lcmp, 1) := by decide +kernel
theorem dX13_isIn_3 : decode cX13_isIn 3 = .ok (.ifCond .lt 14, 3) := by decide +kernel
theorem dX13_isIn_6 : decode cX13_isIn 6 = .ok (.lload_n 0, 1) := by decide +kernel
theorem dX13_isIn_7 : decode cX13_isIn 7 = .ok (.lload 4, 2) := by decide +kernel
theorem dX13_isIn_9 : decode cX13_isIn 9 = .ok (.lcmp, 1) := by decide +kernel
theorem dX13_isIn_10 : decode cX13_isIn 10 = .ok (.ifCond .gt 7, 3) := by decide +kernel
theorem dX13_isIn_13 : decode cX13_isIn 13 = .ok (.iconst 1, 1) := by decide +kernel
theorem dX13_isIn_14 : decode cX13_isIn 14 = .ok (.goto 4, 3) := by decide +kernel
theorem dX13_isIn_17 : decode cX13_isIn 17 = .ok (.iconst 0, 1) := by decide +kernel
theorem dX13_isIn_18 : decode cX13_isIn 18 = .ok (.ireturn, 1) := by decide +kernel
def pX13_isIn (p0 : Int64) (p2 : Int64) (p4 : Int64) : Int32 := if (lg_cmp p0 p2) < 0 then 0 else if 0 < (lg_cmp p0 p4) then 0 else 1
set_option maxRecDepth 10000 in
set_option maxHeartbeats 4000000 in
theorem pX13_isIn_ok (G : Gx) (dk : Nat) (hK : 0 ≤ dk) (g : MT) (h0 : CT) (p0 : Int64) (p2 : Int64) (p4 : Int64) : Ctr G dk yX13_isIn cX13_isIn 6 (some .boolean) [.long p0, .long p2, .long p4] g h0 (some (.int (pX13_isIn p0 p2 p4))) g h0 := by
  obtain ⟨r0, hf⟩ : ∃ z, pX13_isIn p0 p2 p4 = z := ⟨_, rfl⟩
  rw [hf]
  refine Ctr.ofZ (lv := [(0, .long p0), (2, .long p2), (4, .long p4)]) (by decide +kernel) (by simp [cat_i, cat_l, cat_d, cat_rf]) rfl fun X Z => ?_
  unfold pX13_isIn at hf
  refine J_lload_n Z.1 0 dX13_isIn_0 rfl rfl ?_
  refine J_lload_n Z.1 1 dX13_isIn_1 rfl rfl ?_
  refine J_lcmp Z.1 dX13_isIn_2 ?_
  refine J_if_lt Z.1 17 dX13_isIn_3 (by decide) (fun c1 => ?_) (fun c1 => ?_)
  · rw [if_pos c1] at hf
    refine J_iconst Z.1 (v := 0) (by decide) dX13_isIn_17 ?_
    cases hf
    exact J_zret Z.1 Z.2.2.2.2.2 (z_n (Or.inl rfl)) dX13_isIn_18
  · rw [if_neg c1] at hf
    refine J_lload_n Z.1 0 dX13_isIn_6 rfl rfl ?_
    refine J_lload Z.1 2 dX13_isIn_7 rfl ?_
    refine J_lcmp Z.1 dX13_isIn_9 ?_
    refine J_if_gt Z.1 17 dX13_isIn_10 (by decide) (fun c2 => ?_) (fun c2 => ?_)
    · rw [if_pos c2] at hf
      refine J_iconst Z.1 (v := 0) (by decide) dX13_isIn_17 ?_
      cases hf
      exact J_zret Z.1 Z.2.2.2.2.2 (z_n (Or.inl rfl)) dX13_isIn_18
    · rw [if_neg c2] at hf
      refine J_iconst Z.1 (v := 1) (by decide) dX13_isIn_13 ?_
      refine J_goto Z.1 18 dX13_isIn_14 (by decide) ?_
      cases hf
      exact J_zret Z.1 Z.2.2.2.2.2 (z_n (Or.inr rfl)) dX13_isIn_18
theorem pX13_isIn_z (p0 : Int64) (p2 : Int64) (p4 : Int64) : is01 (pX13_isIn p0 p2 p4) := by
  unfold pX13_isIn
  (try split) <;> (try split) <;> (try split) <;> (try split) <;> (try split) <;> (try split) <;> (try split) <;> (try split) <;> first | exact Or.inl rfl | exact Or.inr rfl
theorem dX13_trims_0 : decode cX13_trims 0 = .ok (.iload_n 0, 1) := by decide +kernel
theorem dX13_trims_1 : decode cX13_trims 1 = .ok (.ifCond .ne 10, 3) := by decide +kernel
theorem dX13_trims_4 : decode cX13_trims 4 = .ok (.lload_n 1, 1) := by decide +kernel
theorem dX13_trims_5 : decode cX13_trims 5 = .ok (.l2i, 1) := by decide +kernel
theorem dX13_trims_6 : decode cX13_trims 6 = .ok (.i2b, 1) := by decide +kernel
theorem dX13_trims_7 : decode cX13_trims 7 = .ok (.i2l, 1) := by decide +kernel
theorem dX13_trims_8 : decode cX13_trims 8 = .ok (.goto 27, 3) := by decide +kernel
theorem dX13_trims_11 : decode cX13_trims 11 = .ok (.iload_n 0, 1) := by decide +kernel
theorem dX13_trims_12 : decode cX13_trims 12 = .ok (.iconst 1, 1) := by decide +kernel
theorem dX13_trims_13 : decode cX13_trims 13 = .ok (.if_icmp .ne 10, 3) := by decide +kernel
theorem dX13_trims_16 : decode cX13_trims 16 = .ok (.lload_n 1, 1) := by decide +kernel
theorem dX13_trims_17 : decode cX13_trims 17 = .ok (.l2i, 1) := by decide +kernel
theorem dX13_trims_18 : decode cX13_trims 18 = .ok (.i2s, 1) := by decide +kernel
theorem dX13_trims_19 : decode cX13_trims 19 = .ok (.i2l, 1) := by decide +kernel
theorem dX13_trims_20 : decode cX13_trims 20 = .ok (.goto 15, 3) := by decide +kernel
theorem dX13_trims_23 : decode cX13_trims 23 = .ok (.iload_n 0, 1) := by decide +kernel
theorem dX13_trims_24 : decode cX13_trims 24 = .ok (.iconst 2, 1) := by decide +kernel
theorem dX13_trims_25 : decode cX13_trims 25 = .ok (.if_icmp .ne 9, 3) := by decide +kernel
theorem dX13_trims_28 : decode cX13_trims 28 = .ok (.lload_n 1, 1) := by decide +kernel
theorem dX13_trims_29 : decode cX13_trims 29 = .ok (.l2i, 1) := by decide +kernel
theorem dX13_trims_30 : decode cX13_trims 30 = .ok (.i2l, 1) := by decide +kernel
theorem dX13_trims_31 : decode cX13_trims 31 = .ok (.goto 4, 3) := by decide +kernel
theorem dX13_trims_34 : decode cX13_trims 34 = .ok (.lload_n 1, 1) := by decide +kernel
theorem dX13_trims_35 : decode cX13_trims 35 = .ok (.lreturn, 1) := by decide +kernel
def pX13_trims (p0 : Int32) (p1 : Int64) : Int64 := if p0 = 0 then (Int32.toInt64 (Int8.toInt32 (Int32.toInt8 (Int64.toInt32 p1)))) else if p0 = 1 then (Int32.toInt64 (Int16.toInt32 (Int32.toInt16 (Int64.toInt32 p1)))) else if p0 = 2 then (Int32.toInt64 (Int64.toInt32 p1)) else p1
set_option maxRecDepth 10000 in
set_option maxHeartbeats 4000000 in
theorem pX13_trims_ok (G : Gx) (dk : Nat) (hK : 0 ≤ dk) (g : MT) (h0 : CT) (p0 : Int32) (p1 : Int64) : Ctr G dk yX13_trims cX13_trims 3 (some .long) [.int p0, .long p1] g h0 (some (.long (pX13_trims p0 p1))) g h0 := by
  obtain ⟨r0, hf⟩ : ∃ z, pX13_trims p0 p1 = z := ⟨_, rfl⟩
  rw [hf]
  refine Ctr.ofZ (lv := [(0, .int p0), (1, .long p1)]) (by decide +kernel) (by simp [cat_i, cat_l, cat_d, cat_rf]) rfl fun X Z => ?_
  unfold pX13_trims at hf
  refine J_iload_n Z.1 0 dX13_trims_0 rfl rfl ?_
  refine J_if_ne Z.1 11 dX13_trims_1 (by decide) (fun c1 => ?_) (fun c1 => ?_)
  · rw [if_neg c1] at hf
    refine J_iload_n Z.1 0 dX13_trims_11 rfl rfl ?_
    refine J_iconst Z.1 (v := 1) (by decide) dX13_trims_12 ?_
    refine J_icmp_ne Z.1 23 dX13_trims_13 (by decide) (fun c2 => ?_) (fun c2 => ?_)
    · rw [if_neg c2] at hf
      refine J_iload_n Z.1 0 dX13_trims_23 rfl rfl ?_
      refine J_iconst Z.1 (v := 2) (by decide) dX13_trims_24 ?_
      refine J_icmp_ne Z.1 34 dX13_trims_25 (by decide) (fun c3 => ?_) (fun c3 => ?_)
      · rw [if_neg c3] at hf
        refine J_lload_n Z.1 1 dX13_trims_34 rfl rfl ?_
        cases hf
        exact J_lret Z.1 Z.2.2.2.2.2 dX13_trims_35
      · rw [if_pos c3] at hf
        refine J_lload_n Z.1 1 dX13_trims_28 rfl rfl ?_
        refine J_l2i Z.1 dX13_trims_29 ?_
        refine J_i2l Z.1 dX13_trims_30 ?_
        refine J_goto Z.1 35 dX13_trims_31 (by decide) ?_
        cases hf
        exact J_lret Z.1 Z.2.2.2.2.2 dX13_trims_35
    · rw [if_pos c2] at hf
      refine J_lload_n Z.1 1 dX13_trims_16 rfl rfl ?_
      refine J_l2i Z.1 dX13_trims_17 ?_
      refine J_i2s Z.1 dX13_trims_18 ?_
      refine J_i2l Z.1 dX13_trims_19 ?_
      refine J_goto Z.1 35 dX13_trims_20 (by decide) ?_
      cases hf
      exact J_lret Z.1 Z.2.2.2.2.2 dX13_trims_35
  · rw [if_pos c1] at hf
    refine J_lload_n Z.1 1 dX13_trims_4 rfl rfl ?_
    refine J_l2i Z.1 dX13_trims_5 ?_
    refine J_i2b Z.1 dX13_trims_6 ?_
    refine J_i2l Z.1 dX13_trims_7 ?_
    refine J_goto Z.1 35 dX13_trims_8 (by decide) ?_
    cases hf
    exact J_lret Z.1 Z.2.2.2.2.2 dX13_trims_35
theorem dX13_tray_0 : decode cX13_tray 0 = .ok (.aload_n 0, 1) := by decide +kernel
theorem dX13_tray_1 : decode cX13_tray 1 = .ok (.iconst 0, 1) := by decide +kernel
theorem dX13_tray_2 : decode cX13_tray 2 = .ok (.putfield 71, 3) := by decide +kernel
theorem dX13_tray_5 : decode cX13_tray 5 = .ok (.aload_n 0, 1) := by decide +kernel
theorem dX13_tray_6 : decode cX13_tray 6 = .ok (.iconst 0, 1) := by decide +kernel
theorem dX13_tray_7 : decode cX13_tray 7 = .ok (.putfield 74, 3) := by decide +kernel
theorem dX13_tray_10 : decode cX13_tray 10 = .ok (.iload_n 1, 1) := by decide +kernel
theorem dX13_tray_11 : decode cX13_tray 11 = .ok (.ifCond .lt 17, 3) := by decide +kernel
theorem dX13_tray_14 : decode cX13_tray 14 = .ok (.iload_n 1, 1) := by decide +kernel
theorem dX13_tray_15 : decode cX13_tray 15 = .ok (.iconst 4, 1) := by decide +kernel
theorem dX13_tray_16 : decode cX13_tray 16 = .ok (.if_icmp .ge 12, 3) := by decide +kernel
theorem dX13_tray_19 : decode cX13_tray 19 = .ok (.iload_n 2, 1) := by decide +kernel
theorem dX13_tray_20 : decode cX13_tray 20 = .ok (.ifCond .lt 8, 3) := by decide +kernel
theorem dX13_tray_23 : decode cX13_tray 23 = .ok (.iload_n 2, 1) := by decide +kernel
theorem dX13_tray_24 : decode cX13_tray 24 = .ok (.iconst 3, 1) := by decide +kernel
theorem dX13_tray_25 : decode cX13_tray 25 = .ok (.if_icmp .le 9, 3) := by decide +kernel
theorem dX13_tray_28 : decode cX13_tray 28 = .ok (.aload_n 0, 1) := by decide +kernel
theorem dX13_tray_29 : decode cX13_tray 29 = .ok (.iconst 1, 1) := by decide +kernel
theorem dX13_tray_30 : decode cX13_tray 30 = .ok (.invokevirtual 84, 3) := by decide +kernel
theorem dX13_tray_33 : decode cX13_tray 33 = .ok (.ireturn, 1) := by decide +kernel
theorem dX13_tray_34 : decode cX13_tray 34 = .ok (.iload_n 3, 1) := by decide +kernel
theorem dX13_tray_35 : decode cX13_tray 35 = .ok (.bipush 60, 2) := by decide +kernel
theorem dX13_tray_37 : decode cX13_tray 37 = .ok (.if_icmp .le 9, 3) := by decide +kernel
theorem dX13_tray_40 : decode cX13_tray 40 = .ok (.aload_n 0, 1) := by decide +kernel
theorem dX13_tray_41 : decode cX13_tray 41 = .ok (.iconst 5, 1) := by decide +kernel
theorem dX13_tray_42 : decode cX13_tray 42 = .ok (.invokevirtual 84, 3) := by decide +kernel
theorem dX13_tray_45 : decode cX13_tray 45 = .ok (.ireturn, 1) := by decide +kernel
theorem dX13_tray_46 : decode cX13_tray 46 = .ok (.iload_n 3, 1) := by decide +kernel
theorem dX13_tray_47 : decode cX13_tray 47 = .ok (.ifCond .ge 10, 3) := by decide +kernel
theorem dX13_tray_50 : decode cX13_tray 50 = .ok (.aload_n 0, 1) := by decide +kernel
theorem dX13_tray_51 : decode cX13_tray 51 = .ok (.bipush 6, 2) := by decide +kernel
theorem dX13_tray_53 : decode cX13_tray 53 = .ok (.invokevirtual 84, 3) := by decide +kernel
theorem dX13_tray_56 : decode cX13_tray 56 = .ok (.ireturn, 1) := by decide +kernel
theorem dX13_tray_57 : decode cX13_tray 57 = .ok (.aload_n 0, 1) := by decide +kernel
theorem dX13_tray_58 : decode cX13_tray 58 = .ok (.getfield 7, 3) := by decide +kernel
theorem dX13_tray_61 : decode cX13_tray 61 = .ok (.iload_n 1, 1) := by decide +kernel
theorem dX13_tray_62 : decode cX13_tray 62 = .ok (.iload_n 2, 1) := by decide +kernel
theorem dX13_tray_63 : decode cX13_tray 63 = .ok (.iastore, 1) := by decide +kernel
theorem dX13_tray_64 : decode cX13_tray 64 = .ok (.aload_n 0, 1) := by decide +kernel
theorem dX13_tray_65 : decode cX13_tray 65 = .ok (.getfield 13, 3) := by decide +kernel
theorem dX13_tray_68 : decode cX13_tray 68 = .ok (.iload_n 1, 1) := by decide +kernel
theorem dX13_tray_69 : decode cX13_tray 69 = .ok (.iload_n 3, 1) := by decide +kernel
theorem dX13_tray_70 : decode cX13_tray 70 = .ok (.iastore, 1) := by decide +kernel
theorem dX13_tray_71 : decode cX13_tray 71 = .ok (.iconst 0, 1) := by decide +kernel
theorem dX13_tray_72 : decode cX13_tray 72 = .ok (.istore 4, 2) := by decide +kernel
theorem dX13_tray_74 : decode cX13_tray 74 = .ok (.iload 4, 2) := by decide +kernel
theorem dX13_tray_76 : decode cX13_tray 76 = .ok (.iload_n 3, 1) := by decide +kernel
theorem dX13_tray_77 : decode cX13_tray 77 = .ok (.if_icmp .ge 22, 3) := by decide +kernel
theorem dX13_tray_80 : decode cX13_tray 80 = .ok (.aload_n 0, 1) := by decide +kernel
theorem dX13_tray_81 : decode cX13_tray 81 = .ok (.getfield 16, 3) := by decide +kernel
theorem dX13_tray_84 : decode cX13_tray 84 = .ok (.bipush 60, 2) := by decide +kernel
theorem dX13_tray_86 : decode cX13_tray 86 = .ok (.iload_n 1, 1) := by decide +kernel
theorem dX13_tray_87 : decode cX13_tray 87 = .ok (.imul, 1) := by decide +kernel
theorem dX13_tray_88 : decode cX13_tray 88 = .ok (.iload 4, 2) := by decide +kernel
theorem dX13_tray_90 : decode cX13_tray 90 = .ok (.iadd, 1) := by decide +kernel
theorem dX13_tray_91 : decode cX13_tray 91 = .ok (.lconst 0, 1) := by decide +kernel
theorem dX13_tray_92 : decode cX13_tray 92 = .ok (.lastore, 1) := by decide +kernel
theorem dX13_tray_93 : decode cX13_tray 93 = .ok (.iinc 4 1, 3) := by decide +kernel
theorem dX13_tray_96 : decode cX13_tray 96 = .ok (.goto (-22), 3) := by decide +kernel
theorem dX13_tray_99 : decode cX13_tray 99 = .ok (.iconst 1, 1) := by decide +kernel
theorem dX13_tray_100 : decode cX13_tray 100 = .ok (.ireturn, 1) := by decide +kernel
def pX13_tray_b28 (g : MT) (this : Nat) (p1 : Int32) (p2 : Int32) (p3 : Int32) (h : CT) : Option ((Int32) × CT) := bd2 (pX13_no g h this 1) fun x3 h1 => (bz x3 (some (x3, h1)))
set_option maxRecDepth 10000 in
set_option maxHeartbeats 4000000 in
theorem pX13_tray_b28_ok {X : Cx} {G : Gx} {dk : Nat} {g : MT} {r0 : Int32} {h0 : CT} {this : Nat} {p1 : Int32} {p2 : Int32} {p3 : Int32} (Z : Zx X G cX13_tray RX13 5 dk (some .boolean) (some (.int r0)) g h0) (hK : 1 ≤ dk) (t0 : gT g this = 12) (h : CT) (hf : pX13_tray_b28 g this p1 p2 p3 h = some (r0, h0)) : J X g h 28 [(0, va_rf (some this))] [] := by
  unfold pX13_tray_b28 at hf
  refine J_aload_n Z.1 0 dX13_tray_28 rfl rfl ?_
  refine J_iconst Z.1 (v := 1) (by decide) dX13_tray_29 ?_
  replace hf := bd2_i hf
  obtain ⟨x3, h1, q2, hf⟩ := hf
  refine J_callV (ci := 11) (as := [.int 1]) (rest := []) (sy := [.int x3]) Z.1 dX13_tray_30 cw_X13_84 (pX13_no_ok G (dk - 1) (by omega) q2) rfl rfl t0 (zG Z) rfl (by decide) (zF Z (by omega)) (zO Z (by omega) (by decide)) (zM _) Z.2.1 Z.2.1 rfl rfl ?_
  replace hf := bz_i hf
  obtain ⟨z4, hf⟩ := hf
  cases hf
  exact J_zret Z.1 Z.2.2.2.2.2 (z_n z4) dX13_tray_33
def pX13_tray_b74 (g : MT) (this : Nat) (p1 : Int32) (p2 : Int32) (p3 : Int32) (k74 : Int32 → CT → Option ((Int32) × CT)) (l4 : Int32) (h : CT) : Option ((Int32) × CT) := if p3 ≤ l4 then some (1, h) else lt (hR h this 6) fun r2 => (nn r2 fun a2 => (tg g a2 21 (ix (gL g a2) ((60 * p1) + l4) (lt (sL h a2 (Int32.toNatClampNeg ((60 * p1) + l4)) 0) fun h5 => (lt (l4 + 1) fun x6 => (k74 x6 h5))))))
set_option maxRecDepth 10000 in
set_option maxHeartbeats 4000000 in
theorem pX13_tray_b74_ok {X : Cx} {G : Gx} {dk : Nat} {g : MT} {r0 : Int32} {h0 : CT} {this : Nat} {p1 : Int32} {p2 : Int32} {p3 : Int32} {k74 : Int32 → CT → Option ((Int32) × CT)} (Z : Zx X G cX13_tray RX13 5 dk (some .boolean) (some (.int r0)) g h0) (hK : 1 ≤ dk) (t0 : gT g this = 12) (hk74 : ∀ (l4 : Int32) (h : CT), k74 l4 h = some (r0, h0) → J X g h 74 [(0, va_rf (some this)), (1, .int p1), (3, .int p3), (4, .int l4)] []) (l4 : Int32) (h : CT) (hf : pX13_tray_b74 g this p1 p2 p3 k74 l4 h = some (r0, h0)) : J X g h 74 [(0, va_rf (some this)), (1, .int p1), (3, .int p3), (4, .int l4)] [] := by
  unfold pX13_tray_b74 at hf
  refine J_iload Z.1 3 dX13_tray_74 rfl ?_
  refine J_iload_n Z.1 2 dX13_tray_76 rfl rfl ?_
  refine J_icmp_ge Z.1 99 dX13_tray_77 (by decide) (fun c1 => ?_) (fun c1 => ?_)
  · rw [if_pos c1] at hf
    refine J_iconst Z.1 (v := 1) (by decide) dX13_tray_99 ?_
    cases hf
    exact J_zret Z.1 Z.2.2.2.2.2 (z_n (Or.inr rfl)) dX13_tray_100
  · rw [if_neg c1] at hf
    refine J_aload_n Z.1 0 dX13_tray_80 rfl rfl ?_
    refine J_get (v := va_rf (hR h this 6)) Z.1 dX13_tray_81 fl_X13_16 t0 rfl ?_
    refine J_tr (fun r2 er2 => ?_)
    replace hf := lt_i hf r2 er2
    refine J_bipush Z.1 (v := 60) (by decide) dX13_tray_84 ?_
    refine J_iload_n Z.1 1 dX13_tray_86 rfl rfl ?_
    refine J_imul Z.1 dX13_tray_87 ?_
    refine J_iload Z.1 3 dX13_tray_88 rfl ?_
    refine J_iadd Z.1 dX13_tray_90 ?_
    refine J_lconst Z.1 (v := 0) (by decide) dX13_tray_91 ?_
    replace hf := nn_i hf
    obtain ⟨a2, rfl, hf⟩ := hf
    replace hf := tg_i hf
    obtain ⟨t3, hf⟩ := hf
    replace hf := ix_i hf
    obtain ⟨i4, hf⟩ := hf
    refine J_lastore Z.1 dX13_tray_92 t3 i4 ?_
    refine J_th (fun h5 eh5 => ?_)
    replace hf := lt_i hf h5 eh5
    refine J_iinc Z.1 (v := 1) (lv2 := [(4, .int (l4 + 1)), (0, va_rf (some this)), (1, .int p1), (3, .int p3)]) 3 dX13_tray_93 rfl (by decide) (zL Z (by decide)) rfl ?_
    obtain ⟨x6, ex6⟩ : ∃ z, z = (l4 + 1) := ⟨_, rfl⟩
    replace hf := lt_i hf x6 ex6
    rw [← ex6]
    refine J_goto Z.1 74 dX13_tray_96 (by decide) ?_
    refine J_lv [1, 2, 3, 0] rfl ?_
    exact hk74 _ _ hf
def pX13_tray_l74 (g : MT) (this : Nat) (p1 : Int32) (p2 : Int32) (p3 : Int32) : Nat → Int32 → CT → Option ((Int32) × CT)
  | 0, _, _ => none
  | n + 1, l4, h => pX13_tray_b74 g this p1 p2 p3 (pX13_tray_l74 g this p1 p2 p3 n) l4 h
theorem pX13_tray_l74_ok {X : Cx} {G : Gx} {dk : Nat} {g : MT} {r0 : Int32} {h0 : CT} {this : Nat} {p1 : Int32} {p2 : Int32} {p3 : Int32} (Z : Zx X G cX13_tray RX13 5 dk (some .boolean) (some (.int r0)) g h0) (hK : 1 ≤ dk) (t0 : gT g this = 12) : ∀ (n : Nat) (l4 : Int32) (h : CT), pX13_tray_l74 g this p1 p2 p3 n l4 h = some (r0, h0) → J X g h 74 [(0, va_rf (some this)), (1, .int p1), (3, .int p3), (4, .int l4)] [] := by
  intro n
  induction n with
  | zero => intro l4 h hf; cases hf
  | succ n ih => intro l4 h hf; exact pX13_tray_b74_ok Z hK t0 ih l4 h hf
def pX13_tray (g : MT) (h : CT) (this : Nat) (p1 : Int32) (p2 : Int32) (p3 : Int32) : Option ((Int32) × CT) := tg g this 12 (lt (sI h this 1 0) fun h1 => (lt (sI h1 this 0 0) fun h2 => (if p1 < 0 then pX13_tray_b28 g this p1 p2 p3  h2 else if 4 ≤ p1 then pX13_tray_b28 g this p1 p2 p3  h2 else if p2 < 0 then pX13_tray_b28 g this p1 p2 p3  h2 else if p2 ≤ 3 then if p3 ≤ 60 then if 0 ≤ p3 then lt (hR h2 this 4) fun r9 => (nn r9 fun a9 => (tg g a9 20 (ix (gL g a9) p1 (lt (sI h2 a9 (Int32.toNatClampNeg p1) p2) fun h12 => (lt (hR h12 this 5) fun r13 => (nn r13 fun a13 => (tg g a13 20 (ix (gL g a13) p1 (lt (sI h12 a13 (Int32.toNatClampNeg p1) p3) fun h16 => (pX13_tray_l74 g this p1 p2 p3  FUEL 0 h16)))))))))) else bd2 (pX13_no g h2 this 6) fun x19 h17 => (bz x19 (some (x19, h17))) else bd2 (pX13_no g h2 this 5) fun x23 h21 => (bz x23 (some (x23, h21))) else pX13_tray_b28 g this p1 p2 p3  h2)))
set_option maxRecDepth 10000 in
set_option maxHeartbeats 4000000 in
theorem pX13_tray_ok (G : Gx) (dk : Nat) (hK : 1 ≤ dk) {g : MT} {h h0 : CT} {this : Nat} {p1 : Int32} {p2 : Int32} {p3 : Int32} {r0 : Int32} (hf : pX13_tray g h this p1 p2 p3 = some (r0, h0)) : Ctr G dk yX13_tray cX13_tray 5 (some .boolean) [va_rf (some this), .int p1, .int p2, .int p3] g h (some (.int r0)) g h0 := by
  refine Ctr.ofZ (lv := [(0, va_rf (some this)), (1, .int p1), (2, .int p2), (3, .int p3)]) (by decide +kernel) (by simp [cat_i, cat_l, cat_d, cat_rf]) rfl fun X Z => ?_
  unfold pX13_tray at hf
  replace hf := tg_i hf
  obtain ⟨t0, hf⟩ := hf
  refine J_aload_n Z.1 0 dX13_tray_0 rfl rfl ?_
  refine J_iconst Z.1 (v := 0) (by decide) dX13_tray_1 ?_
  refine J_putI Z.1 dX13_tray_2 fl_X13_71 (fun q => by cases q) t0 rfl rfl (congrArg Value.int (hI_s _ _ _ _)) ?_
  refine J_th (fun h1 eh1 => ?_)
  replace hf := lt_i hf h1 eh1
  refine J_aload_n Z.1 0 dX13_tray_5 rfl rfl ?_
  refine J_iconst Z.1 (v := 0) (by decide) dX13_tray_6 ?_
  refine J_putI Z.1 dX13_tray_7 fl_X13_74 (fun q => by cases q) t0 rfl rfl (congrArg Value.int (hI_s _ _ _ _)) ?_
  refine J_th (fun h2 eh2 => ?_)
  replace hf := lt_i hf h2 eh2
  refine J_iload_n Z.1 1 dX13_tray_10 rfl rfl ?_
  refine J_if_lt Z.1 28 dX13_tray_11 (by decide) (fun c3 => ?_) (fun c3 => ?_)
  · rw [if_pos c3] at hf
    refine J_lv [0] rfl ?_
    exact pX13_tray_b28_ok Z hK t0  _ hf
  · rw [if_neg c3] at hf
    refine J_iload_n Z.1 1 dX13_tray_14 rfl rfl ?_
    refine J_iconst Z.1 (v := 4) (by decide) dX13_tray_15 ?_
    refine J_icmp_ge Z.1 28 dX13_tray_16 (by decide) (fun c4 => ?_) (fun c4 => ?_)
    · rw [if_pos c4] at hf
      refine J_lv [0] rfl ?_
      exact pX13_tray_b28_ok Z hK t0  _ hf
    · rw [if_neg c4] at hf
      refine J_iload_n Z.1 2 dX13_tray_19 rfl rfl ?_
      refine J_if_lt Z.1 28 dX13_tray_20 (by decide) (fun c5 => ?_) (fun c5 => ?_)
      · rw [if_pos c5] at hf
        refine J_lv [0] rfl ?_
        exact pX13_tray_b28_ok Z hK t0  _ hf
      · rw [if_neg c5] at hf
        refine J_iload_n Z.1 2 dX13_tray_23 rfl rfl ?_
        refine J_iconst Z.1 (v := 3) (by decide) dX13_tray_24 ?_
        refine J_icmp_le Z.1 34 dX13_tray_25 (by decide) (fun c6 => ?_) (fun c6 => ?_)
        · rw [if_pos c6] at hf
          refine J_iload_n Z.1 3 dX13_tray_34 rfl rfl ?_
          refine J_bipush Z.1 (v := 60) (by decide) dX13_tray_35 ?_
          refine J_icmp_le Z.1 46 dX13_tray_37 (by decide) (fun c7 => ?_) (fun c7 => ?_)
          · rw [if_pos c7] at hf
            refine J_iload_n Z.1 3 dX13_tray_46 rfl rfl ?_
            refine J_if_ge Z.1 57 dX13_tray_47 (by decide) (fun c8 => ?_) (fun c8 => ?_)
            · rw [if_pos c8] at hf
              refine J_aload_n Z.1 0 dX13_tray_57 rfl rfl ?_
              refine J_get (v := va_rf (hR h2 this 4)) Z.1 dX13_tray_58 fl_X13_7 t0 rfl ?_
              refine J_tr (fun r9 er9 => ?_)
              replace hf := lt_i hf r9 er9
              refine J_iload_n Z.1 1 dX13_tray_61 rfl rfl ?_
              refine J_iload_n Z.1 2 dX13_tray_62 rfl rfl ?_
              replace hf := nn_i hf
              obtain ⟨a9, rfl, hf⟩ := hf
              replace hf := tg_i hf
              obtain ⟨t10, hf⟩ := hf
              replace hf := ix_i hf
              obtain ⟨i11, hf⟩ := hf
              refine J_iastore Z.1 dX13_tray_63 t10 i11 ?_
              refine J_th (fun h12 eh12 => ?_)
              replace hf := lt_i hf h12 eh12
              refine J_aload_n Z.1 0 dX13_tray_64 rfl rfl ?_
              refine J_get (v := va_rf (hR h12 this 5)) Z.1 dX13_tray_65 fl_X13_13 t0 rfl ?_
              refine J_tr (fun r13 er13 => ?_)
              replace hf := lt_i hf r13 er13
              refine J_iload_n Z.1 1 dX13_tray_68 rfl rfl ?_
              refine J_iload_n Z.1 3 dX13_tray_69 rfl rfl ?_
              replace hf := nn_i hf
              obtain ⟨a13, rfl, hf⟩ := hf
              replace hf := tg_i hf
              obtain ⟨t14, hf⟩ := hf
              replace hf := ix_i hf
              obtain ⟨i15, hf⟩ := hf
              refine J_iastore Z.1 dX13_tray_70 t14 i15 ?_
              refine J_th (fun h16 eh16 => ?_)
              replace hf := lt_i hf h16 eh16
              refine J_iconst Z.1 (v := 0) (by decide) dX13_tray_71 ?_
              refine J_istore Z.1 (lv2 := [(4, .int 0), (0, va_rf (some this)), (1, .int p1), (2, .int p2), (3, .int p3)]) dX13_tray_72 (zL Z (by decide)) rfl ?_
              refine J_lv [1, 2, 4, 0] rfl ?_
              exact pX13_tray_l74_ok Z hK t0  FUEL _ _ hf
            · rw [if_neg c8] at hf
              refine J_aload_n Z.1 0 dX13_tray_50 rfl rfl ?_
              refine J_bipush Z.1 (v := 6) (by decide) dX13_tray_51 ?_
              replace hf := bd2_i hf
              obtain ⟨x19, h17, q18, hf⟩ := hf
              refine J_callV (ci := 11) (as := [.int 6]) (rest := []) (sy := [.int x19]) Z.1 dX13_tray_53 cw_X13_84 (pX13_no_ok G (dk - 1) (by omega) q18) rfl rfl t0 (zG Z) rfl (by decide) (zF Z (by omega)) (zO Z (by omega) (by decide)) (zM _) Z.2.1 Z.2.1 rfl rfl ?_
              replace hf := bz_i hf
              obtain ⟨z20, hf⟩ := hf
              cases hf
              exact J_zret Z.1 Z.2.2.2.2.2 (z_n z20) dX13_tray_56
          · rw [if_neg c7] at hf
            refine J_aload_n Z.1 0 dX13_tray_40 rfl rfl ?_
            refine J_iconst Z.1 (v := 5) (by decide) dX13_tray_41 ?_
            replace hf := bd2_i hf
            obtain ⟨x23, h21, q22, hf⟩ := hf
            refine J_callV (ci := 11) (as := [.int 5]) (rest := []) (sy := [.int x23]) Z.1 dX13_tray_42 cw_X13_84 (pX13_no_ok G (dk - 1) (by omega) q22) rfl rfl t0 (zG Z) rfl (by decide) (zF Z (by omega)) (zO Z (by omega) (by decide)) (zM _) Z.2.1 Z.2.1 rfl rfl ?_
            replace hf := bz_i hf
            obtain ⟨z24, hf⟩ := hf
            cases hf
            exact J_zret Z.1 Z.2.2.2.2.2 (z_n z24) dX13_tray_45
        · rw [if_neg c6] at hf
          refine J_lv [0] rfl ?_
          exact pX13_tray_b28_ok Z hK t0  _ hf
theorem dX13_trayed_0 : decode cX13_trayed 0 = .ok (.iload_n 1, 1) := by decide +kernel
theorem dX13_trayed_1 : decode cX13_trayed 1 = .ok (.ifCond .lt 8, 3) := by decide +kernel
theorem dX13_trayed_4 : decode cX13_trayed 4 = .ok (.iload_n 1, 1) := by decide +kernel
theorem dX13_trayed_5 : decode cX13_trayed 5 = .ok (.iconst 4, 1) := by decide +kernel
theorem dX13_trayed_6 : decode cX13_trayed 6 = .ok (.if_icmp .lt 7, 3) := by decide +kernel
theorem dX13_trayed_9 : decode cX13_trayed 9 = .ok (.iconst 1, 1) := by decide +kernel
theorem dX13_trayed_10 : decode cX13_trayed 10 = .ok (.goto 17, 3) := by decide +kernel
theorem dX13_trayed_13 : decode cX13_trayed 13 = .ok (.aload_n 0, 1) := by decide +kernel
theorem dX13_trayed_14 : decode cX13_trayed 14 = .ok (.getfield 13, 3) := by decide +kernel
theorem dX13_trayed_17 : decode cX13_trayed 17 = .ok (.iload_n 1, 1) := by decide +kernel
theorem dX13_trayed_18 : decode cX13_trayed 18 = .ok (.iaload, 1) := by decide +kernel
theorem dX13_trayed_19 : decode cX13_trayed 19 = .ok (.ifCond .ge 7, 3) := by decide +kernel
theorem dX13_trayed_22 : decode cX13_trayed 22 = .ok (.iconst 3, 1) := by decide +kernel
theorem dX13_trayed_23 : decode cX13_trayed 23 = .ok (.goto 4, 3) := by decide +kernel
theorem dX13_trayed_26 : decode cX13_trayed 26 = .ok (.iconst 0, 1) := by decide +kernel
theorem dX13_trayed_27 : decode cX13_trayed 27 = .ok (.ireturn, 1) := by decide +kernel
def pX13_trayed_b9 (g : MT) (h : CT) (this : Nat) (p1 : Int32)  : Option Int32 := some 1
set_option maxRecDepth 10000 in
set_option maxHeartbeats 4000000 in
theorem pX13_trayed_b9_ok {X : Cx} {G : Gx} {dk : Nat} {g : MT} {r0 : Int32} {h : CT} {this : Nat} {p1 : Int32} (Z : Zx X G cX13_trayed RX13 2 dk (some .int) (some (.int r0)) g h) (hK : 0 ≤ dk) (t0 : gT g this = 12)  (hf : pX13_trayed_b9 g h this p1 = some r0) : J X g h 9 [] [] := by
  unfold pX13_trayed_b9 at hf
  refine J_iconst Z.1 (v := 1) (by decide) dX13_trayed_9 ?_
  refine J_goto Z.1 27 dX13_trayed_10 (by decide) ?_
  cases hf
  exact J_iret Z.1 Z.2.2.2.2.2 dX13_trayed_27
def pX13_trayed (g : MT) (h : CT) (this : Nat) (p1 : Int32) : Option Int32 := tg g this 12 (if p1 < 0 then pX13_trayed_b9 g h this p1   else if p1 < 4 then lt (hR h this 5) fun r3 => (nn r3 fun a3 => (tg g a3 20 (ix (gL g a3) p1 (if 0 ≤ (hI h a3 (Int32.toNatClampNeg p1)) then some 0 else some 3)))) else pX13_trayed_b9 g h this p1  )
set_option maxRecDepth 10000 in
set_option maxHeartbeats 4000000 in
theorem pX13_trayed_ok (G : Gx) (dk : Nat) (hK : 0 ≤ dk) {g : MT} {h : CT} {this : Nat} {p1 : Int32} {r0 : Int32} (hf : pX13_trayed g h this p1 = some r0) : Ctr G dk yX13_trayed cX13_trayed 2 (some .int) [va_rf (some this), .int p1] g h (some (.int r0)) g h := by
  refine Ctr.ofZ (lv := [(0, va_rf (some this)), (1, .int p1)]) (by decide +kernel) (by simp [cat_i, cat_l, cat_d, cat_rf]) rfl fun X Z => ?_
  unfold pX13_trayed at hf
  replace hf := tg_i hf
  obtain ⟨t0, hf⟩ := hf
  refine J_iload_n Z.1 1 dX13_trayed_0 rfl rfl ?_
  refine J_if_lt Z.1 9 dX13_trayed_1 (by decide) (fun c1 => ?_) (fun c1 => ?_)
  · rw [if_pos c1] at hf
    refine J_lv [] rfl ?_
    exact pX13_trayed_b9_ok Z hK t0   hf
  · rw [if_neg c1] at hf
    refine J_iload_n Z.1 1 dX13_trayed_4 rfl rfl ?_
    refine J_iconst Z.1 (v := 4) (by decide) dX13_trayed_5 ?_
    refine J_icmp_lt Z.1 13 dX13_trayed_6 (by decide) (fun c2 => ?_) (fun c2 => ?_)
    · rw [if_pos c2] at hf
      refine J_aload_n Z.1 0 dX13_trayed_13 rfl rfl ?_
      refine J_get (v := va_rf (hR h this 5)) Z.1 dX13_trayed_14 fl_X13_13 t0 rfl ?_
      refine J_tr (fun r3 er3 => ?_)
      replace hf := lt_i hf r3 er3
      refine J_iload_n Z.1 1 dX13_trayed_17 rfl rfl ?_
      replace hf := nn_i hf
      obtain ⟨a3, rfl, hf⟩ := hf
      replace hf := tg_i hf
      obtain ⟨t4, hf⟩ := hf
      replace hf := ix_i hf
      obtain ⟨i5, hf⟩ := hf
      refine J_iaload Z.1 dX13_trayed_18 t4 i5 ?_
      refine J_if_ge Z.1 26 dX13_trayed_19 (by decide) (fun c6 => ?_) (fun c6 => ?_)
      · rw [if_pos c6] at hf
        refine J_iconst Z.1 (v := 0) (by decide) dX13_trayed_26 ?_
        cases hf
        exact J_iret Z.1 Z.2.2.2.2.2 dX13_trayed_27
      · rw [if_neg c6] at hf
        refine J_iconst Z.1 (v := 3) (by decide) dX13_trayed_22 ?_
        refine J_goto Z.1 27 dX13_trayed_23 (by decide) ?_
        cases hf
        exact J_iret Z.1 Z.2.2.2.2.2 dX13_trayed_27
    · rw [if_neg c2] at hf
      refine J_lv [] rfl ?_
      exact pX13_trayed_b9_ok Z hK t0   hf
theorem dX13_placed_0 : decode cX13_placed 0 = .ok (.aload_n 0, 1) := by decide +kernel
theorem dX13_placed_1 : decode cX13_placed 1 = .ok (.iload_n 1, 1) := by decide +kernel
theorem dX13_placed_2 : decode cX13_placed 2 = .ok (.invokevirtual 88, 3) := by decide +kernel
theorem dX13_placed_5 : decode cX13_placed 5 = .ok (.istore_n 3, 1) := by decide +kernel
theorem dX13_placed_6 : decode cX13_placed 6 = .ok (.iload_n 3, 1) := by decide +kernel
theorem dX13_placed_7 : decode cX13_placed 7 = .ok (.ifCond .le 7, 3) := by decide +kernel
theorem dX13_placed_10 : decode cX13_placed 10 = .ok (.iload_n 3, 1) := by decide +kernel
theorem dX13_placed_11 : decode cX13_placed 11 = .ok (.goto 22, 3) := by decide +kernel
theorem dX13_placed_14 : decode cX13_placed 14 = .ok (.iload_n 2, 1) := by decide +kernel
theorem dX13_placed_15 : decode cX13_placed 15 = .ok (.ifCond .lt 13, 3) := by decide +kernel
theorem dX13_placed_18 : decode cX13_placed 18 = .ok (.iload_n 2, 1) := by decide +kernel
theorem dX13_placed_19 : decode cX13_placed 19 = .ok (.aload_n 0, 1) := by decide +kernel
theorem dX13_placed_20 : decode cX13_placed 20 = .ok (.getfield 13, 3) := by decide +kernel
theorem dX13_placed_23 : decode cX13_placed 23 = .ok (.iload_n 1, 1) := by decide +kernel
theorem dX13_placed_24 : decode cX13_placed 24 = .ok (.iaload, 1) := by decide +kernel
theorem dX13_placed_25 : decode cX13_placed 25 = .ok (.if_icmp .lt 7, 3) := by decide +kernel
theorem dX13_placed_28 : decode cX13_placed 28 = .ok (.iconst 4, 1) := by decide +kernel
theorem dX13_placed_29 : decode cX13_placed 29 = .ok (.goto 4, 3) := by decide +kernel
theorem dX13_placed_32 : decode cX13_placed 32 = .ok (.iconst 0, 1) := by decide +kernel
theorem dX13_placed_33 : decode cX13_placed 33 = .ok (.ireturn, 1) := by decide +kernel
def pX13_placed_b28 (g : MT) (h : CT) (this : Nat) (p1 : Int32) (p2 : Int32)  : Option Int32 := some 4
set_option maxRecDepth 10000 in
set_option maxHeartbeats 4000000 in
theorem pX13_placed_b28_ok {X : Cx} {G : Gx} {dk : Nat} {g : MT} {r0 : Int32} {h : CT} {this : Nat} {p1 : Int32} {p2 : Int32} (Z : Zx X G cX13_placed RX13 4 dk (some .int) (some (.int r0)) g h) (hK : 1 ≤ dk) (t0 : gT g this = 12)  (hf : pX13_placed_b28 g h this p1 p2 = some r0) : J X g h 28 [] [] := by
  unfold pX13_placed_b28 at hf
  refine J_iconst Z.1 (v := 4) (by decide) dX13_placed_28 ?_
  refine J_goto Z.1 33 dX13_placed_29 (by decide) ?_
  cases hf
  exact J_iret Z.1 Z.2.2.2.2.2 dX13_placed_33
def pX13_placed (g : MT) (h : CT) (this : Nat) (p1 : Int32) (p2 : Int32) : Option Int32 := tg g this 12 (bd (pX13_trayed g h this p1) fun x1 => (if x1 ≤ 0 then if p2 < 0 then pX13_placed_b28 g h this p1 p2   else lt (hR h this 5) fun r5 => (nn r5 fun a5 => (tg g a5 20 (ix (gL g a5) p1 (if p2 < (hI h a5 (Int32.toNatClampNeg p1)) then some 0 else pX13_placed_b28 g h this p1 p2  )))) else some x1))
set_option maxRecDepth 10000 in
set_option maxHeartbeats 4000000 in
theorem pX13_placed_ok (G : Gx) (dk : Nat) (hK : 1 ≤ dk) {g : MT} {h : CT} {this : Nat} {p1 : Int32} {p2 : Int32} {r0 : Int32} (hf : pX13_placed g h this p1 p2 = some r0) : Ctr G dk yX13_placed cX13_placed 4 (some .int) [va_rf (some this), .int p1, .int p2] g h (some (.int r0)) g h := by
  refine Ctr.ofZ (lv := [(0, va_rf (some this)), (1, .int p1), (2, .int p2)]) (by decide +kernel) (by simp [cat_i, cat_l, cat_d, cat_rf]) rfl fun X Z => ?_
  unfold pX13_placed at hf
  replace hf := tg_i hf
  obtain ⟨t0, hf⟩ := hf
  refine J_aload_n Z.1 0 dX13_placed_0 rfl rfl ?_
  refine J_iload_n Z.1 1 dX13_placed_1 rfl rfl ?_
  replace hf := bd_i hf
  obtain ⟨x1, q2, hf⟩ := hf
  refine J_callV (ci := 11) (as := [.int p1]) (rest := []) (sy := [.int x1]) Z.1 dX13_placed_2 cw_X13_88 (pX13_trayed_ok G (dk - 1) (by omega) q2) rfl rfl t0 (zG Z) rfl (by decide) (zF Z (by omega)) (zO Z (by omega) (by decide)) (zM _) Z.2.1 Z.2.1 rfl rfl ?_
  refine J_istore_n Z.1 (lv2 := [(3, .int x1), (0, va_rf (some this)), (1, .int p1), (2, .int p2)]) dX13_placed_5 rfl (zL Z (by decide)) rfl ?_
  refine J_iload_n Z.1 0 dX13_placed_6 rfl rfl ?_
  refine J_if_le Z.1 14 dX13_placed_7 (by decide) (fun c3 => ?_) (fun c3 => ?_)
  · rw [if_pos c3] at hf
    refine J_iload_n Z.1 3 dX13_placed_14 rfl rfl ?_
    refine J_if_lt Z.1 28 dX13_placed_15 (by decide) (fun c4 => ?_) (fun c4 => ?_)
    · rw [if_pos c4] at hf
      refine J_lv [] rfl ?_
      exact pX13_placed_b28_ok Z hK t0   hf
    · rw [if_neg c4] at hf
      refine J_iload_n Z.1 3 dX13_placed_18 rfl rfl ?_
      refine J_aload_n Z.1 1 dX13_placed_19 rfl rfl ?_
      refine J_get (v := va_rf (hR h this 5)) Z.1 dX13_placed_20 fl_X13_13 t0 rfl ?_
      refine J_tr (fun r5 er5 => ?_)
      replace hf := lt_i hf r5 er5
      refine J_iload_n Z.1 2 dX13_placed_23 rfl rfl ?_
      replace hf := nn_i hf
      obtain ⟨a5, rfl, hf⟩ := hf
      replace hf := tg_i hf
      obtain ⟨t6, hf⟩ := hf
      replace hf := ix_i hf
      obtain ⟨i7, hf⟩ := hf
      refine J_iaload Z.1 dX13_placed_24 t6 i7 ?_
      refine J_icmp_lt Z.1 32 dX13_placed_25 (by decide) (fun c8 => ?_) (fun c8 => ?_)
      · rw [if_pos c8] at hf
        refine J_iconst Z.1 (v := 0) (by decide) dX13_placed_32 ?_
        cases hf
        exact J_iret Z.1 Z.2.2.2.2.2 dX13_placed_33
      · rw [if_neg c8] at hf
        refine J_lv [] rfl ?_
        exact pX13_placed_b28_ok Z hK t0   hf
  · rw [if_neg c3] at hf
    refine J_iload_n Z.1 0 dX13_placed_10 rfl rfl ?_
    refine J_goto Z.1 33 dX13_placed_11 (by decide) ?_
    cases hf
    exact J_iret Z.1 Z.2.2.2.2.2 dX13_placed_33
theorem dX13_write_0 : decode cX13_write 0 = .ok (.aload_n 0, 1) := by decide +kernel
theorem dX13_write_1 : decode cX13_write 1 = .ok (.iconst 0, 1) := by decide +kernel
theorem dX13_write_2 : decode cX13_write 2 = .ok (.putfield 71, 3) := by decide +kernel
theorem dX13_write_5 : decode cX13_write 5 = .ok (.aload_n 0, 1) := by decide +kernel
theorem dX13_write_6 : decode cX13_write 6 = .ok (.aload_n 0, 1) := by decide +kernel
theorem dX13_write_7 : decode cX13_write 7 = .ok (.iload_n 1, 1) := by decide +kernel
theorem dX13_write_8 : decode cX13_write 8 = .ok (.iload_n 2, 1) := by decide +kernel
theorem dX13_write_9 : decode cX13_write 9 = .ok (.invokevirtual 92, 3) := by decide +kernel
theorem dX13_write_12 : decode cX13_write 12 = .ok (.putfield 74, 3) := by decide +kernel
theorem dX13_write_15 : decode cX13_write 15 = .ok (.aload_n 0, 1) := by decide +kernel
theorem dX13_write_16 : decode cX13_write 16 = .ok (.getfield 74, 3) := by decide +kernel
theorem dX13_write_19 : decode cX13_write 19 = .ok (.ifCond .le 5, 3) := by decide +kernel
theorem dX13_write_22 : decode cX13_write 22 = .ok (.iconst 0, 1) := by decide +kernel
theorem dX13_write_23 : decode cX13_write 23 = .ok (.ireturn, 1) := by decide +kernel
theorem dX13_write_24 : decode cX13_write 24 = .ok (.aload_n 0, 1) := by decide +kernel
theorem dX13_write_25 : decode cX13_write 25 = .ok (.getfield 16, 3) := by decide +kernel
theorem dX13_write_28 : decode cX13_write 28 = .ok (.bipush 60, 2) := by decide +kernel
theorem dX13_write_30 : decode cX13_write 30 = .ok (.iload_n 1, 1) := by decide +kernel
theorem dX13_write_31 : decode cX13_write 31 = .ok (.imul, 1) := by decide +kernel
theorem dX13_write_32 : decode cX13_write 32 = .ok (.iload_n 2, 1) := by decide +kernel
theorem dX13_write_33 : decode cX13_write 33 = .ok (.iadd, 1) := by decide +kernel
theorem dX13_write_34 : decode cX13_write 34 = .ok (.aload_n 0, 1) := by decide +kernel
theorem dX13_write_35 : decode cX13_write 35 = .ok (.getfield 7, 3) := by decide +kernel
theorem dX13_write_38 : decode cX13_write 38 = .ok (.iload_n 1, 1) := by decide +kernel
theorem dX13_write_39 : decode cX13_write 39 = .ok (.iaload, 1) := by decide +kernel
theorem dX13_write_40 : decode cX13_write 40 = .ok (.lload_n 3, 1) := by decide +kernel
theorem dX13_write_41 : decode cX13_write 41 = .ok (.invokestatic 96, 3) := by decide +kernel
theorem dX13_write_44 : decode cX13_write 44 = .ok (.lastore, 1) := by decide +kernel
theorem dX13_write_45 : decode cX13_write 45 = .ok (.iconst 1, 1) := by decide +kernel
theorem dX13_write_46 : decode cX13_write 46 = .ok (.ireturn, 1) := by decide +kernel
def pX13_write (g : MT) (h : CT) (this : Nat) (p1 : Int32) (p2 : Int32) (p3 : Int64) : Option ((Int32) × CT) := tg g this 12 (lt (sI h this 1 0) fun h1 => (bd (pX13_placed g h1 this p1 p2) fun x2 => (lt (sI h1 this 0 x2) fun h4 => (if (hI h4 this 0) ≤ 0 then lt (hR h4 this 6) fun r6 => (lt (hR h4 this 4) fun r7 => (nn r7 fun a7 => (tg g a7 20 (ix (gL g a7) p1 (nn r6 fun a6 => (tg g a6 21 (ix (gL g a6) ((60 * p1) + p2) (lt (sL h4 a6 (Int32.toNatClampNeg ((60 * p1) + p2)) (pX13_trims (hI h4 a7 (Int32.toNatClampNeg p1)) p3)) fun h12 => (some (1, h12)))))))))) else some (0, h4)))))
set_option maxRecDepth 10000 in
set_option maxHeartbeats 4000000 in
theorem pX13_write_ok (G : Gx) (dk : Nat) (hK : 2 ≤ dk) {g : MT} {h h0 : CT} {this : Nat} {p1 : Int32} {p2 : Int32} {p3 : Int64} {r0 : Int32} (hf : pX13_write g h this p1 p2 p3 = some (r0, h0)) : Ctr G dk yX13_write cX13_write 5 (some .boolean) [va_rf (some this), .int p1, .int p2, .long p3] g h (some (.int r0)) g h0 := by
  refine Ctr.ofZ (lv := [(0, va_rf (some this)), (1, .int p1), (2, .int p2), (3, .long p3)]) (by decide +kernel) (by simp [cat_i, cat_l, cat_d, cat_rf]) rfl fun X Z => ?_
  unfold pX13_write at hf
  replace hf := tg_i hf
  obtain ⟨t0, hf⟩ := hf
  refine J_aload_n Z.1 0 dX13_write_0 rfl rfl ?_
  refine J_iconst Z.1 (v := 0) (by decide) dX13_write_1 ?_
  refine J_putI Z.1 dX13_write_2 fl_X13_71 (fun q => by cases q) t0 rfl rfl (congrArg Value.int (hI_s _ _ _ _)) ?_
  refine J_th (fun h1 eh1 => ?_)
  replace hf := lt_i hf h1 eh1
  refine J_aload_n Z.1 0 dX13_write_5 rfl rfl ?_
  refine J_aload_n Z.1 0 dX13_write_6 rfl rfl ?_
  refine J_iload_n Z.1 1 dX13_write_7 rfl rfl ?_
  refine J_iload_n Z.1 2 dX13_write_8 rfl rfl ?_
  replace hf := bd_i hf
  obtain ⟨x2, q3, hf⟩ := hf
  refine J_callV (ci := 11) (as := [.int p1, .int p2]) (rest := [va_rf (some this)]) (sy := [.int x2, va_rf (some this)]) Z.1 dX13_write_9 cw_X13_92 (pX13_placed_ok G (dk - 1) (by omega) q3) rfl rfl t0 (zG Z) rfl (by simp [cat_i, cat_l, cat_d, cat_rf]) (zF Z (by omega)) (zO Z (by omega) (by decide)) (zM _) Z.2.1 Z.2.1 rfl rfl ?_
  refine J_putI Z.1 dX13_write_12 fl_X13_74 (fun q => by cases q) t0 rfl rfl (congrArg Value.int (hI_s _ _ _ _)) ?_
  refine J_th (fun h4 eh4 => ?_)
  replace hf := lt_i hf h4 eh4
  refine J_aload_n Z.1 0 dX13_write_15 rfl rfl ?_
  refine J_get (v := .int (hI h4 this 0)) Z.1 dX13_write_16 fl_X13_74 t0 rfl ?_
  refine J_if_le Z.1 24 dX13_write_19 (by decide) (fun c5 => ?_) (fun c5 => ?_)
  · rw [if_pos c5] at hf
    refine J_aload_n Z.1 0 dX13_write_24 rfl rfl ?_
    refine J_get (v := va_rf (hR h4 this 6)) Z.1 dX13_write_25 fl_X13_16 t0 rfl ?_
    refine J_tr (fun r6 er6 => ?_)
    replace hf := lt_i hf r6 er6
    refine J_bipush Z.1 (v := 60) (by decide) dX13_write_28 ?_
    refine J_iload_n Z.1 1 dX13_write_30 rfl rfl ?_
    refine J_imul Z.1 dX13_write_31 ?_
    refine J_iload_n Z.1 2 dX13_write_32 rfl rfl ?_
    refine J_iadd Z.1 dX13_write_33 ?_
    refine J_aload_n Z.1 0 dX13_write_34 rfl rfl ?_
    refine J_get (v := va_rf (hR h4 this 4)) Z.1 dX13_write_35 fl_X13_7 t0 rfl ?_
    refine J_tr (fun r7 er7 => ?_)
    replace hf := lt_i hf r7 er7
    refine J_iload_n Z.1 1 dX13_write_38 rfl rfl ?_
    replace hf := nn_i hf
    obtain ⟨a7, rfl, hf⟩ := hf
    replace hf := tg_i hf
    obtain ⟨t8, hf⟩ := hf
    replace hf := ix_i hf
    obtain ⟨i9, hf⟩ := hf
    refine J_iaload Z.1 dX13_write_39 t8 i9 ?_
    refine J_lload_n Z.1 3 dX13_write_40 rfl rfl ?_
    refine J_callS (as := [.int (hI h4 a7 (Int32.toNatClampNeg p1)), .long p3]) (rest := [.int ((60 * p1) + p2), va_rf r6]) (sy := [.long (pX13_trims (hI h4 a7 (Int32.toNatClampNeg p1)) p3), .int ((60 * p1) + p2), va_rf r6]) Z.1 dX13_write_41 cw_X13_96 (pX13_trims_ok G (dk - 1) (by omega) g h4 (hI h4 a7 (Int32.toNatClampNeg p1)) p3) (zG Z) rfl (by simp [cat_i, cat_l, cat_d, cat_rf]) (zF Z (by omega)) (zO Z (by omega) (by decide)) (zM _) Z.2.1 Z.2.1 rfl rfl ?_
    replace hf := nn_i hf
    obtain ⟨a6, rfl, hf⟩ := hf
    replace hf := tg_i hf
    obtain ⟨t10, hf⟩ := hf
    replace hf := ix_i hf
    obtain ⟨i11, hf⟩ := hf
    refine J_lastore Z.1 dX13_write_44 t10 i11 ?_
    refine J_th (fun h12 eh12 => ?_)
    replace hf := lt_i hf h12 eh12
    refine J_iconst Z.1 (v := 1) (by decide) dX13_write_45 ?_
    cases hf
    exact J_zret Z.1 Z.2.2.2.2.2 (z_n (Or.inr rfl)) dX13_write_46
  · rw [if_neg c5] at hf
    refine J_iconst Z.1 (v := 0) (by decide) dX13_write_22 ?_
    cases hf
    exact J_zret Z.1 Z.2.2.2.2.2 (z_n (Or.inl rfl)) dX13_write_23
theorem dX13_read_0 : decode cX13_read 0 = .ok (.aload_n 0, 1) := by decide +kernel
theorem dX13_read_1 : decode cX13_read 1 = .ok (.iconst 0, 1) := by decide +kernel
theorem dX13_read_2 : decode cX13_read 2 = .ok (.putfield 71, 3) := by decide +kernel
theorem dX13_read_5 : decode cX13_read 5 = .ok (.aload_n 0, 1) := by decide +kernel
theorem dX13_read_6 : decode cX13_read 6 = .ok (.aload_n 0, 1) := by decide +kernel
theorem dX13_read_7 : decode cX13_read 7 = .ok (.iload_n 1, 1) := by decide +kernel
theorem dX13_read_8 : decode cX13_read 8 = .ok (.iload_n 2, 1) := by decide +kernel
theorem dX13_read_9 : decode cX13_read 9 = .ok (.invokevirtual 92, 3) := by decide +kernel
theorem dX13_read_12 : decode cX13_read 12 = .ok (.putfield 74, 3) := by decide +kernel
theorem dX13_read_15 : decode cX13_read 15 = .ok (.aload_n 0, 1) := by decide +kernel
theorem dX13_read_16 : decode cX13_read 16 = .ok (.getfield 74, 3) := by decide +kernel
theorem dX13_read_19 : decode cX13_read 19 = .ok (.ifCond .le 9, 3) := by decide +kernel
theorem dX13_read_22 : decode cX13_read 22 = .ok (.ldc2_w 100, 3) := by decide +kernel
theorem dX13_read_25 : decode cX13_read 25 = .ok (.goto 14, 3) := by decide +kernel
theorem dX13_read_28 : decode cX13_read 28 = .ok (.aload_n 0, 1) := by decide +kernel
theorem dX13_read_29 : decode cX13_read 29 = .ok (.getfield 16, 3) := by decide +kernel
theorem dX13_read_32 : decode cX13_read 32 = .ok (.bipush 60, 2) := by decide +kernel
theorem dX13_read_34 : decode cX13_read 34 = .ok (.iload_n 1, 1) := by decide +kernel
theorem dX13_read_35 : decode cX13_read 35 = .ok (.imul, 1) := by decide +kernel
theorem dX13_read_36 : decode cX13_read 36 = .ok (.iload_n 2, 1) := by decide +kernel
theorem dX13_read_37 : decode cX13_read 37 = .ok (.iadd, 1) := by decide +kernel
theorem dX13_read_38 : decode cX13_read 38 = .ok (.laload, 1) := by decide +kernel
theorem dX13_read_39 : decode cX13_read 39 = .ok (.lreturn, 1) := by decide +kernel
def pX13_read (g : MT) (h : CT) (this : Nat) (p1 : Int32) (p2 : Int32) : Option ((Int64) × CT) := tg g this 12 (lt (sI h this 1 0) fun h1 => (bd (pX13_placed g h1 this p1 p2) fun x2 => (lt (sI h1 this 0 x2) fun h4 => (if (hI h4 this 0) ≤ 0 then lt (hR h4 this 6) fun r6 => (nn r6 fun a6 => (tg g a6 21 (ix (gL g a6) ((60 * p1) + p2) (some ((hL h4 a6 (Int32.toNatClampNeg ((60 * p1) + p2))), h4))))) else some ((-1), h4)))))
set_option maxRecDepth 10000 in
set_option maxHeartbeats 4000000 in
theorem pX13_read_ok (G : Gx) (dk : Nat) (hK : 2 ≤ dk) {g : MT} {h h0 : CT} {this : Nat} {p1 : Int32} {p2 : Int32} {r0 : Int64} (hf : pX13_read g h this p1 p2 = some (r0, h0)) : Ctr G dk yX13_read cX13_read 3 (some .long) [va_rf (some this), .int p1, .int p2] g h (some (.long r0)) g h0 := by
  refine Ctr.ofZ (lv := [(0, va_rf (some this)), (1, .int p1), (2, .int p2)]) (by decide +kernel) (by simp [cat_i, cat_l, cat_d, cat_rf]) rfl fun X Z => ?_
  unfold pX13_read at hf
  replace hf := tg_i hf
  obtain ⟨t0, hf⟩ := hf
  refine J_aload_n Z.1 0 dX13_read_0 rfl rfl ?_
  refine J_iconst Z.1 (v := 0) (by decide) dX13_read_1 ?_
  refine J_putI Z.1 dX13_read_2 fl_X13_71 (fun q => by cases q) t0 rfl rfl (congrArg Value.int (hI_s _ _ _ _)) ?_
  refine J_th (fun h1 eh1 => ?_)
  replace hf := lt_i hf h1 eh1
  refine J_aload_n Z.1 0 dX13_read_5 rfl rfl ?_
  refine J_aload_n Z.1 0 dX13_read_6 rfl rfl ?_
  refine J_iload_n Z.1 1 dX13_read_7 rfl rfl ?_
  refine J_iload_n Z.1 2 dX13_read_8 rfl rfl ?_
  replace hf := bd_i hf
  obtain ⟨x2, q3, hf⟩ := hf
  refine J_callV (ci := 11) (as := [.int p1, .int p2]) (rest := [va_rf (some this)]) (sy := [.int x2, va_rf (some this)]) Z.1 dX13_read_9 cw_X13_92 (pX13_placed_ok G (dk - 1) (by omega) q3) rfl rfl t0 (zG Z) rfl (by simp [cat_i, cat_l, cat_d, cat_rf]) (zF Z (by omega)) (zO Z (by omega) (by decide)) (zM _) Z.2.1 Z.2.1 rfl rfl ?_
  refine J_putI Z.1 dX13_read_12 fl_X13_74 (fun q => by cases q) t0 rfl rfl (congrArg Value.int (hI_s _ _ _ _)) ?_
  refine J_th (fun h4 eh4 => ?_)
  replace hf := lt_i hf h4 eh4
  refine J_aload_n Z.1 0 dX13_read_15 rfl rfl ?_
  refine J_get (v := .int (hI h4 this 0)) Z.1 dX13_read_16 fl_X13_74 t0 rfl ?_
  refine J_if_le Z.1 28 dX13_read_19 (by decide) (fun c5 => ?_) (fun c5 => ?_)
  · rw [if_pos c5] at hf
    refine J_aload_n Z.1 0 dX13_read_28 rfl rfl ?_
    refine J_get (v := va_rf (hR h4 this 6)) Z.1 dX13_read_29 fl_X13_16 t0 rfl ?_
    refine J_tr (fun r6 er6 => ?_)
    replace hf := lt_i hf r6 er6
    refine J_bipush Z.1 (v := 60) (by decide) dX13_read_32 ?_
    refine J_iload_n Z.1 1 dX13_read_34 rfl rfl ?_
    refine J_imul Z.1 dX13_read_35 ?_
    refine J_iload_n Z.1 2 dX13_read_36 rfl rfl ?_
    refine J_iadd Z.1 dX13_read_37 ?_
    replace hf := nn_i hf
    obtain ⟨a6, rfl, hf⟩ := hf
    replace hf := tg_i hf
    obtain ⟨t7, hf⟩ := hf
    replace hf := ix_i hf
    obtain ⟨i8, hf⟩ := hf
    refine J_laload Z.1 dX13_read_38 t7 i8 ?_
    cases hf
    exact J_lret Z.1 Z.2.2.2.2.2 dX13_read_39
  · rw [if_neg c5] at hf
    refine J_ldc2 Z.1 q_1596 dX13_read_22 ?_
    refine J_goto Z.1 39 dX13_read_25 (by decide) ?_
    cases hf
    exact J_lret Z.1 Z.2.2.2.2.2 dX13_read_39
theorem dX13_pour_0 : decode cX13_pour 0 = .ok (.aload_n 0, 1) := by decide +kernel
theorem dX13_pour_1 : decode cX13_pour 1 = .ok (.iconst 0, 1) := by decide +kernel
theorem dX13_pour_2 : decode cX13_pour 2 = .ok (.putfield 71, 3) := by decide +kernel
theorem dX13_pour_5 : decode cX13_pour 5 = .ok (.aload_n 0, 1) := by decide +kernel
theorem dX13_pour_6 : decode cX13_pour 6 = .ok (.iconst 0, 1) := by decide +kernel
theorem dX13_pour_7 : decode cX13_pour 7 = .ok (.putfield 74, 3) := by decide +kernel
theorem dX13_pour_10 : decode cX13_pour 10 = .ok (.iload_n 1, 1) := by decide +kernel
theorem dX13_pour_11 : decode cX13_pour 11 = .ok (.ifCond .lt 17, 3) := by decide +kernel
theorem dX13_pour_14 : decode cX13_pour 14 = .ok (.iload_n 1, 1) := by decide +kernel
theorem dX13_pour_15 : decode cX13_pour 15 = .ok (.iconst 4, 1) := by decide +kernel
theorem dX13_pour_16 : decode cX13_pour 16 = .ok (.if_icmp .ge 12, 3) := by decide +kernel
theorem dX13_pour_19 : decode cX13_pour 19 = .ok (.iload_n 3, 1) := by decide +kernel
theorem dX13_pour_20 : decode cX13_pour 20 = .ok (.ifCond .lt 8, 3) := by decide +kernel
theorem dX13_pour_23 : decode cX13_pour 23 = .ok (.iload_n 3, 1) := by decide +kernel
theorem dX13_pour_24 : decode cX13_pour 24 = .ok (.iconst 4, 1) := by decide +kernel
theorem dX13_pour_25 : decode cX13_pour 25 = .ok (.if_icmp .lt 9, 3) := by decide +kernel
theorem dX13_pour_28 : decode cX13_pour 28 = .ok (.aload_n 0, 1) := by decide +kernel
theorem dX13_pour_29 : decode cX13_pour 29 = .ok (.iconst 1, 1) := by decide +kernel
theorem dX13_pour_30 : decode cX13_pour 30 = .ok (.invokevirtual 84, 3) := by decide +kernel
theorem dX13_pour_33 : decode cX13_pour 33 = .ok (.ireturn, 1) := by decide +kernel
theorem dX13_pour_34 : decode cX13_pour 34 = .ok (.aload_n 0, 1) := by decide +kernel
theorem dX13_pour_35 : decode cX13_pour 35 = .ok (.getfield 13, 3) := by decide +kernel
theorem dX13_pour_38 : decode cX13_pour 38 = .ok (.iload_n 1, 1) := by decide +kernel
theorem dX13_pour_39 : decode cX13_pour 39 = .ok (.iaload, 1) := by decide +kernel
theorem dX13_pour_40 : decode cX13_pour 40 = .ok (.ifCond .lt 12, 3) := by decide +kernel
theorem dX13_pour_43 : decode cX13_pour 43 = .ok (.aload_n 0, 1) := by decide +kernel
theorem dX13_pour_44 : decode cX13_pour 44 = .ok (.getfield 13, 3) := by decide +kernel
theorem dX13_pour_47 : decode cX13_pour 47 = .ok (.iload_n 3, 1) := by decide +kernel
theorem dX13_pour_48 : decode cX13_pour 48 = .ok (.iaload, 1) := by decide +kernel
theorem dX13_pour_49 : decode cX13_pour 49 = .ok (.ifCond .ge 9, 3) := by decide +kernel
theorem dX13_pour_52 : decode cX13_pour 52 = .ok (.aload_n 0, 1) := by decide +kernel
theorem dX13_pour_53 : decode cX13_pour 53 = .ok (.iconst 3, 1) := by decide +kernel
theorem dX13_pour_54 : decode cX13_pour 54 = .ok (.invokevirtual 84, 3) := by decide +kernel
theorem dX13_pour_57 : decode cX13_pour 57 = .ok (.ireturn, 1) := by decide +kernel
theorem dX13_pour_58 : decode cX13_pour 58 = .ok (.aload_n 0, 1) := by decide +kernel
theorem dX13_pour_59 : decode cX13_pour 59 = .ok (.getfield 7, 3) := by decide +kernel
theorem dX13_pour_62 : decode cX13_pour 62 = .ok (.iload_n 1, 1) := by decide +kernel
theorem dX13_pour_63 : decode cX13_pour 63 = .ok (.iaload, 1) := by decide +kernel
theorem dX13_pour_64 : decode cX13_pour 64 = .ok (.aload_n 0, 1) := by decide +kernel
theorem dX13_pour_65 : decode cX13_pour 65 = .ok (.getfield 7, 3) := by decide +kernel
theorem dX13_pour_68 : decode cX13_pour 68 = .ok (.iload_n 3, 1) := by decide +kernel
theorem dX13_pour_69 : decode cX13_pour 69 = .ok (.iaload, 1) := by decide +kernel
theorem dX13_pour_70 : decode cX13_pour 70 = .ok (.if_icmp .eq 10, 3) := by decide +kernel
theorem dX13_pour_73 : decode cX13_pour 73 = .ok (.aload_n 0, 1) := by decide +kernel
theorem dX13_pour_74 : decode cX13_pour 74 = .ok (.bipush 11, 2) := by decide +kernel
theorem dX13_pour_76 : decode cX13_pour 76 = .ok (.invokevirtual 84, 3) := by decide +kernel
theorem dX13_pour_79 : decode cX13_pour 79 = .ok (.ireturn, 1) := by decide +kernel
theorem dX13_pour_80 : decode cX13_pour 80 = .ok (.iload 5, 2) := by decide +kernel
theorem dX13_pour_82 : decode cX13_pour 82 = .ok (.ifCond .ge 10, 3) := by decide +kernel
theorem dX13_pour_85 : decode cX13_pour 85 = .ok (.aload_n 0, 1) := by decide +kernel
theorem dX13_pour_86 : decode cX13_pour 86 = .ok (.bipush 6, 2) := by decide +kernel
theorem dX13_pour_88 : decode cX13_pour 88 = .ok (.invokevirtual 84, 3) := by decide +kernel
theorem dX13_pour_91 : decode cX13_pour 91 = .ok (.ireturn, 1) := by decide +kernel
theorem dX13_pour_92 : decode cX13_pour 92 = .ok (.iload_n 2, 1) := by decide +kernel
theorem dX13_pour_93 : decode cX13_pour 93 = .ok (.ifCond .lt 43, 3) := by decide +kernel
theorem dX13_pour_96 : decode cX13_pour 96 = .ok (.iload 4, 2) := by decide +kernel
theorem dX13_pour_98 : decode cX13_pour 98 = .ok (.ifCond .lt 38, 3) := by decide +kernel
theorem dX13_pour_101 : decode cX13_pour 101 = .ok (.iload_n 2, 1) := by decide +kernel
theorem dX13_pour_102 : decode cX13_pour 102 = .ok (.i2l, 1) := by decide +kernel
theorem dX13_pour_103 : decode cX13_pour 103 = .ok (.iload 5, 2) := by decide +kernel
theorem dX13_pour_105 : decode cX13_pour 105 = .ok (.i2l, 1) := by decide +kernel
theorem dX13_pour_106 : decode cX13_pour 106 = .ok (.ladd, 1) := by decide +kernel
theorem dX13_pour_107 : decode cX13_pour 107 = .ok (.aload_n 0, 1) := by decide +kernel
theorem dX13_pour_108 : decode cX13_pour 108 = .ok (.getfield 13, 3) := by decide +kernel
theorem dX13_pour_111 : decode cX13_pour 111 = .ok (.iload_n 1, 1) := by decide +kernel
theorem dX13_pour_112 : decode cX13_pour 112 = .ok (.iaload, 1) := by decide +kernel
theorem dX13_pour_113 : decode cX13_pour 113 = .ok (.i2l, 1) := by decide +kernel
theorem dX13_pour_114 : decode cX13_pour 114 = .ok (.lcmp, 1) := by decide +kernel
theorem dX13_pour_115 : decode cX13_pour 115 = .ok (.ifCond .gt 21, 3) := by decide +kernel
theorem dX13_pour_118 : decode cX13_pour 118 = .ok (.iload 4, 2) := by decide +kernel
theorem dX13_pour_120 : decode cX13_pour 120 = .ok (.i2l, 1) := by decide +kernel
theorem dX13_pour_121 : decode cX13_pour 121 = .ok (.iload 5, 2) := by decide +kernel
theorem dX13_pour_123 : decode cX13_pour 123 = .ok (.i2l, 1) := by decide +kernel
theorem dX13_pour_124 : decode cX13_pour 124 = .ok (.ladd, 1) := by decide +kernel
theorem dX13_pour_125 : decode cX13_pour 125 = .ok (.aload_n 0, 1) := by decide +kernel
theorem dX13_pour_126 : decode cX13_pour 126 = .ok (.getfield 13, 3) := by decide +kernel
theorem dX13_pour_129 : decode cX13_pour 129 = .ok (.iload_n 3, 1) := by decide +kernel
theorem dX13_pour_130 : decode cX13_pour 130 = .ok (.iaload, 1) := by decide +kernel
theorem dX13_pour_131 : decode cX13_pour 131 = .ok (.i2l, 1) := by decide +kernel
theorem dX13_pour_132 : decode cX13_pour 132 = .ok (.lcmp, 1) := by decide +kernel
theorem dX13_pour_133 : decode cX13_pour 133 = .ok (.ifCond .le 9, 3) := by decide +kernel
theorem dX13_pour_136 : decode cX13_pour 136 = .ok (.aload_n 0, 1) := by decide +kernel
theorem dX13_pour_137 : decode cX13_pour 137 = .ok (.iconst 4, 1) := by decide +kernel
theorem dX13_pour_138 : decode cX13_pour 138 = .ok (.invokevirtual 84, 3) := by decide +kernel
theorem dX13_pour_141 : decode cX13_pour 141 = .ok (.ireturn, 1) := by decide +kernel
theorem dX13_pour_142 : decode cX13_pour 142 = .ok (.iload_n 2, 1) := by decide +kernel
theorem dX13_pour_143 : decode cX13_pour 143 = .ok (.iload 4, 2) := by decide +kernel
theorem dX13_pour_145 : decode cX13_pour 145 = .ok (.if_icmp .ge 7, 3) := by decide +kernel
theorem dX13_pour_148 : decode cX13_pour 148 = .ok (.iconst 1, 1) := by decide +kernel
theorem dX13_pour_149 : decode cX13_pour 149 = .ok (.goto 4, 3) := by decide +kernel
theorem dX13_pour_152 : decode cX13_pour 152 = .ok (.iconst 0, 1) := by decide +kernel
theorem dX13_pour_153 : decode cX13_pour 153 = .ok (.istore 6, 2) := by decide +kernel
theorem dX13_pour_155 : decode cX13_pour 155 = .ok (.iconst 0, 1) := by decide +kernel
theorem dX13_pour_156 : decode cX13_pour 156 = .ok (.istore 7, 2) := by decide +kernel
theorem dX13_pour_158 : decode cX13_pour 158 = .ok (.iload 7, 2) := by decide +kernel
theorem dX13_pour_160 : decode cX13_pour 160 = .ok (.iload 5, 2) := by decide +kernel
theorem dX13_pour_162 : decode cX13_pour 162 = .ok (.if_icmp .ge 57, 3) := by decide +kernel
theorem dX13_pour_165 : decode cX13_pour 165 = .ok (.iload 6, 2) := by decide +kernel
theorem dX13_pour_167 : decode cX13_pour 167 = .ok (.ifCond .eq 13, 3) := by decide +kernel
theorem dX13_pour_170 : decode cX13_pour 170 = .ok (.iload 5, 2) := by decide +kernel
theorem dX13_pour_172 : decode cX13_pour 172 = .ok (.iconst 1, 1) := by decide +kernel
theorem dX13_pour_173 : decode cX13_pour 173 = .ok (.isub, 1) := by decide +kernel
theorem dX13_pour_174 : decode cX13_pour 174 = .ok (.iload 7, 2) := by decide +kernel
theorem dX13_pour_176 : decode cX13_pour 176 = .ok (.isub, 1) := by decide +kernel
theorem dX13_pour_177 : decode cX13_pour 177 = .ok (.goto 5, 3) := by decide +kernel
theorem dX13_pour_180 : decode cX13_pour 180 = .ok (.iload 7, 2) := by decide +kernel
theorem dX13_pour_182 : decode cX13_pour 182 = .ok (.istore 8, 2) := by decide +kernel
theorem dX13_pour_184 : decode cX13_pour 184 = .ok (.aload_n 0, 1) := by decide +kernel
theorem dX13_pour_185 : decode cX13_pour 185 = .ok (.getfield 16, 3) := by decide +kernel
theorem dX13_pour_188 : decode cX13_pour 188 = .ok (.bipush 60, 2) := by decide +kernel
theorem dX13_pour_190 : decode cX13_pour 190 = .ok (.iload_n 3, 1) := by decide +kernel
theorem dX13_pour_191 : decode cX13_pour 191 = .ok (.imul, 1) := by decide +kernel
theorem dX13_pour_192 : decode cX13_pour 192 = .ok (.iload 4, 2) := by decide +kernel
theorem dX13_pour_194 : decode cX13_pour 194 = .ok (.iadd, 1) := by decide +kernel
theorem dX13_pour_195 : decode cX13_pour 195 = .ok (.iload 8, 2) := by decide +kernel
theorem dX13_pour_197 : decode cX13_pour 197 = .ok (.iadd, 1) := by decide +kernel
theorem dX13_pour_198 : decode cX13_pour 198 = .ok (.aload_n 0, 1) := by decide +kernel
theorem dX13_pour_199 : decode cX13_pour 199 = .ok (.getfield 16, 3) := by decide +kernel
theorem dX13_pour_202 : decode cX13_pour 202 = .ok (.bipush 60, 2) := by decide +kernel
theorem dX13_pour_204 : decode cX13_pour 204 = .ok (.iload_n 1, 1) := by decide +kernel
theorem dX13_pour_205 : decode cX13_pour 205 = .ok (.imul, 1) := by decide +kernel
theorem dX13_pour_206 : decode cX13_pour 206 = .ok (.iload_n 2, 1) := by decide +kernel
theorem dX13_pour_207 : decode cX13_pour 207 = .ok (.iadd, 1) := by decide +kernel
theorem dX13_pour_208 : decode cX13_pour 208 = .ok (.iload 8, 2) := by decide +kernel
theorem dX13_pour_210 : decode cX13_pour 210 = .ok (.iadd, 1) := by decide +kernel
theorem dX13_pour_211 : decode cX13_pour 211 = .ok (.laload, 1) := by decide +kernel
theorem dX13_pour_212 : decode cX13_pour 212 = .ok (.lastore, 1) := by decide +kernel
theorem dX13_pour_213 : decode cX13_pour 213 = .ok (.iinc 7 1, 3) := by decide +kernel
theorem dX13_pour_216 : decode cX13_pour 216 = .ok (.goto (-58), 3) := by decide +kernel
theorem dX13_pour_219 : decode cX13_pour 219 = .ok (.iconst 1, 1) := by decide +kernel
theorem dX13_pour_220 : decode cX13_pour 220 = .ok (.ireturn, 1) := by decide +kernel
def pX13_pour_b28 (g : MT) (this : Nat) (p1 : Int32) (p2 : Int32) (p3 : Int32) (p4 : Int32) (p5 : Int32) (h : CT) : Option ((Int32) × CT) := bd2 (pX13_no g h this 1) fun x3 h1 => (bz x3 (some (x3, h1)))
set_option maxRecDepth 10000 in
set_option maxHeartbeats 4000000 in
theorem pX13_pour_b28_ok {X : Cx} {G : Gx} {dk : Nat} {g : MT} {r0 : Int32} {h0 : CT} {this : Nat} {p1 : Int32} {p2 : Int32} {p3 : Int32} {p4 : Int32} {p5 : Int32} (Z : Zx X G cX13_pour RX13 9 dk (some .boolean) (some (.int r0)) g h0) (hK : 1 ≤ dk) (t0 : gT g this = 12) (h : CT) (hf : pX13_pour_b28 g this p1 p2 p3 p4 p5 h = some (r0, h0)) : J X g h 28 [(0, va_rf (some this))] [] := by
  unfold pX13_pour_b28 at hf
  refine J_aload_n Z.1 0 dX13_pour_28 rfl rfl ?_
  refine J_iconst Z.1 (v := 1) (by decide) dX13_pour_29 ?_
  replace hf := bd2_i hf
  obtain ⟨x3, h1, q2, hf⟩ := hf
  refine J_callV (ci := 11) (as := [.int 1]) (rest := []) (sy := [.int x3]) Z.1 dX13_pour_30 cw_X13_84 (pX13_no_ok G (dk - 1) (by omega) q2) rfl rfl t0 (zG Z) rfl (by decide) (zF Z (by omega)) (zO Z (by omega) (by decide)) (zM _) Z.2.1 Z.2.1 rfl rfl ?_
  replace hf := bz_i hf
  obtain ⟨z4, hf⟩ := hf
  cases hf
  exact J_zret Z.1 Z.2.2.2.2.2 (z_n z4) dX13_pour_33
def pX13_pour_b52 (g : MT) (this : Nat) (p1 : Int32) (p2 : Int32) (p3 : Int32) (p4 : Int32) (p5 : Int32) (h : CT) : Option ((Int32) × CT) := bd2 (pX13_no g h this 3) fun x3 h1 => (bz x3 (some (x3, h1)))
set_option maxRecDepth 10000 in
set_option maxHeartbeats 4000000 in
theorem pX13_pour_b52_ok {X : Cx} {G : Gx} {dk : Nat} {g : MT} {r0 : Int32} {h0 : CT} {this : Nat} {p1 : Int32} {p2 : Int32} {p3 : Int32} {p4 : Int32} {p5 : Int32} (Z : Zx X G cX13_pour RX13 9 dk (some .boolean) (some (.int r0)) g h0) (hK : 1 ≤ dk) (t0 : gT g this = 12) (h : CT) (hf : pX13_pour_b52 g this p1 p2 p3 p4 p5 h = some (r0, h0)) : J X g h 52 [(0, va_rf (some this))] [] := by
  unfold pX13_pour_b52 at hf
  refine J_aload_n Z.1 0 dX13_pour_52 rfl rfl ?_
  refine J_iconst Z.1 (v := 3) (by decide) dX13_pour_53 ?_
  replace hf := bd2_i hf
  obtain ⟨x3, h1, q2, hf⟩ := hf
  refine J_callV (ci := 11) (as := [.int 3]) (rest := []) (sy := [.int x3]) Z.1 dX13_pour_54 cw_X13_84 (pX13_no_ok G (dk - 1) (by omega) q2) rfl rfl t0 (zG Z) rfl (by decide) (zF Z (by omega)) (zO Z (by omega) (by decide)) (zM _) Z.2.1 Z.2.1 rfl rfl ?_
  replace hf := bz_i hf
  obtain ⟨z4, hf⟩ := hf
  cases hf
  exact J_zret Z.1 Z.2.2.2.2.2 (z_n z4) dX13_pour_57
def pX13_pour_b136 (g : MT) (this : Nat) (p1 : Int32) (p2 : Int32) (p3 : Int32) (p4 : Int32) (p5 : Int32) (h : CT) : Option ((Int32) × CT) := bd2 (pX13_no g h this 4) fun x3 h1 => (bz x3 (some (x3, h1)))
set_option maxRecDepth 10000 in
set_option maxHeartbeats 4000000 in
theorem pX13_pour_b136_ok {X : Cx} {G : Gx} {dk : Nat} {g : MT} {r0 : Int32} {h0 : CT} {this : Nat} {p1 : Int32} {p2 : Int32} {p3 : Int32} {p4 : Int32} {p5 : Int32} (Z : Zx X G cX13_pour RX13 9 dk (some .boolean) (some (.int r0)) g h0) (hK : 1 ≤ dk) (t0 : gT g this = 12) (h : CT) (hf : pX13_pour_b136 g this p1 p2 p3 p4 p5 h = some (r0, h0)) : J X g h 136 [(0, va_rf (some this))] [] := by
  unfold pX13_pour_b136 at hf
  refine J_aload_n Z.1 0 dX13_pour_136 rfl rfl ?_
  refine J_iconst Z.1 (v := 4) (by decide) dX13_pour_137 ?_
  replace hf := bd2_i hf
  obtain ⟨x3, h1, q2, hf⟩ := hf
  refine J_callV (ci := 11) (as := [.int 4]) (rest := []) (sy := [.int x3]) Z.1 dX13_pour_138 cw_X13_84 (pX13_no_ok G (dk - 1) (by omega) q2) rfl rfl t0 (zG Z) rfl (by decide) (zF Z (by omega)) (zO Z (by omega) (by decide)) (zM _) Z.2.1 Z.2.1 rfl rfl ?_
  replace hf := bz_i hf
  obtain ⟨z4, hf⟩ := hf
  cases hf
  exact J_zret Z.1 Z.2.2.2.2.2 (z_n z4) dX13_pour_141
def pX13_pour_b182 (g : MT) (this : Nat) (p1 : Int32) (p2 : Int32) (p3 : Int32) (p4 : Int32) (p5 : Int32) (k158 : Int32 → Int32 → CT → Option ((Int32) × CT)) (l6 : Int32) (l7 : Int32) (s0 : Int32) (h : CT) : Option ((Int32) × CT) := lt (hR h this 6) fun r1 => (lt (hR h this 6) fun r2 => (nn r2 fun a2 => (tg g a2 21 (ix (gL g a2) (((60 * p1) + p2) + s0) (nn r1 fun a1 => (tg g a1 21 (ix (gL g a1) (((60 * p3) + p4) + s0) (lt (sL h a1 (Int32.toNatClampNeg (((60 * p3) + p4) + s0)) (hL h a2 (Int32.toNatClampNeg (((60 * p1) + p2) + s0)))) fun h7 => (lt (l7 + 1) fun x8 => (k158 l6 x8 h7))))))))))
set_option maxRecDepth 10000 in
set_option maxHeartbeats 4000000 in
theorem pX13_pour_b182_ok {X : Cx} {G : Gx} {dk : Nat} {g : MT} {r0 : Int32} {h0 : CT} {this : Nat} {p1 : Int32} {p2 : Int32} {p3 : Int32} {p4 : Int32} {p5 : Int32} {k158 : Int32 → Int32 → CT → Option ((Int32) × CT)} (Z : Zx X G cX13_pour RX13 9 dk (some .boolean) (some (.int r0)) g h0) (hK : 1 ≤ dk) (t0 : gT g this = 12) (hk158 : ∀ (l6 : Int32) (l7 : Int32) (h : CT), k158 l6 l7 h = some (r0, h0) → J X g h 158 [(0, va_rf (some this)), (1, .int p1), (2, .int p2), (3, .int p3), (4, .int p4), (5, .int p5), (6, .int l6), (7, .int l7)] []) (l6 : Int32) (l7 : Int32) (s0 : Int32) (h : CT) (hf : pX13_pour_b182 g this p1 p2 p3 p4 p5 k158 l6 l7 s0 h = some (r0, h0)) : J X g h 182 [(0, va_rf (some this)), (1, .int p1), (2, .int p2), (3, .int p3), (4, .int p4), (5, .int p5), (6, .int l6), (7, .int l7)] [.int s0] := by
  unfold pX13_pour_b182 at hf
  refine J_istore Z.1 (lv2 := [(8, .int s0), (0, va_rf (some this)), (1, .int p1), (2, .int p2), (3, .int p3), (4, .int p4), (5, .int p5), (6, .int l6), (7, .int l7)]) dX13_pour_182 (zL Z (by decide)) rfl ?_
  refine J_aload_n Z.1 1 dX13_pour_184 rfl rfl ?_
  refine J_get (v := va_rf (hR h this 6)) Z.1 dX13_pour_185 fl_X13_16 t0 rfl ?_
  refine J_tr (fun r1 er1 => ?_)
  replace hf := lt_i hf r1 er1
  refine J_bipush Z.1 (v := 60) (by decide) dX13_pour_188 ?_
  refine J_iload_n Z.1 4 dX13_pour_190 rfl rfl ?_
  refine J_imul Z.1 dX13_pour_191 ?_
  refine J_iload Z.1 5 dX13_pour_192 rfl ?_
  refine J_iadd Z.1 dX13_pour_194 ?_
  refine J_iload Z.1 0 dX13_pour_195 rfl ?_
  refine J_iadd Z.1 dX13_pour_197 ?_
  refine J_aload_n Z.1 1 dX13_pour_198 rfl rfl ?_
  refine J_get (v := va_rf (hR h this 6)) Z.1 dX13_pour_199 fl_X13_16 t0 rfl ?_
  refine J_tr (fun r2 er2 => ?_)
  replace hf := lt_i hf r2 er2
  refine J_bipush Z.1 (v := 60) (by decide) dX13_pour_202 ?_
  refine J_iload_n Z.1 2 dX13_pour_204 rfl rfl ?_
  refine J_imul Z.1 dX13_pour_205 ?_
  refine J_iload_n Z.1 3 dX13_pour_206 rfl rfl ?_
  refine J_iadd Z.1 dX13_pour_207 ?_
  refine J_iload Z.1 0 dX13_pour_208 rfl ?_
  refine J_iadd Z.1 dX13_pour_210 ?_
  replace hf := nn_i hf
  obtain ⟨a2, rfl, hf⟩ := hf
  replace hf := tg_i hf
  obtain ⟨t3, hf⟩ := hf
  replace hf := ix_i hf
  obtain ⟨i4, hf⟩ := hf
  refine J_laload Z.1 dX13_pour_211 t3 i4 ?_
  replace hf := nn_i hf
  obtain ⟨a1, rfl, hf⟩ := hf
  replace hf := tg_i hf
  obtain ⟨t5, hf⟩ := hf
  replace hf := ix_i hf
  obtain ⟨i6, hf⟩ := hf
  refine J_lastore Z.1 dX13_pour_212 t5 i6 ?_
  refine J_th (fun h7 eh7 => ?_)
  replace hf := lt_i hf h7 eh7
  refine J_iinc Z.1 (v := 1) (lv2 := [(7, .int (l7 + 1)), (8, .int s0), (0, va_rf (some this)), (1, .int p1), (2, .int p2), (3, .int p3), (4, .int p4), (5, .int p5), (6, .int l6)]) 8 dX13_pour_213 rfl (by decide) (zL Z (by decide)) rfl ?_
  obtain ⟨x8, ex8⟩ : ∃ z, z = (l7 + 1) := ⟨_, rfl⟩
  replace hf := lt_i hf x8 ex8
  rw [← ex8]
  refine J_goto Z.1 158 dX13_pour_216 (by decide) ?_
  refine J_lv [2, 3, 4, 5, 6, 7, 8, 0] rfl ?_
  exact hk158 _ _ _ hf
def pX13_pour_b158 (g : MT) (this : Nat) (p1 : Int32) (p2 : Int32) (p3 : Int32) (p4 : Int32) (p5 : Int32) (k158 : Int32 → Int32 → CT → Option ((Int32) × CT)) (l6 : Int32) (l7 : Int32) (h : CT) : Option ((Int32) × CT) := if p5 ≤ l7 then some (1, h) else if l6 = 0 then pX13_pour_b182 g this p1 p2 p3 p4 p5 k158 l6 l7 l7 h else pX13_pour_b182 g this p1 p2 p3 p4 p5 k158 l6 l7 ((p5 - 1) - l7) h
set_option maxRecDepth 10000 in
set_option maxHeartbeats 4000000 in
theorem pX13_pour_b158_ok {X : Cx} {G : Gx} {dk : Nat} {g : MT} {r0 : Int32} {h0 : CT} {this : Nat} {p1 : Int32} {p2 : Int32} {p3 : Int32} {p4 : Int32} {p5 : Int32} {k158 : Int32 → Int32 → CT → Option ((Int32) × CT)} (Z : Zx X G cX13_pour RX13 9 dk (some .boolean) (some (.int r0)) g h0) (hK : 1 ≤ dk) (t0 : gT g this = 12) (hk158 : ∀ (l6 : Int32) (l7 : Int32) (h : CT), k158 l6 l7 h = some (r0, h0) → J X g h 158 [(0, va_rf (some this)), (1, .int p1), (2, .int p2), (3, .int p3), (4, .int p4), (5, .int p5), (6, .int l6), (7, .int l7)] []) (l6 : Int32) (l7 : Int32) (h : CT) (hf : pX13_pour_b158 g this p1 p2 p3 p4 p5 k158 l6 l7 h = some (r0, h0)) : J X g h 158 [(0, va_rf (some this)), (1, .int p1), (2, .int p2), (3, .int p3), (4, .int p4), (5, .int p5), (6, .int l6), (7, .int l7)] [] := by
  unfold pX13_pour_b158 at hf
  refine J_iload Z.1 7 dX13_pour_158 rfl ?_
  refine J_iload Z.1 5 dX13_pour_160 rfl ?_
  refine J_icmp_ge Z.1 219 dX13_pour_162 (by decide) (fun c1 => ?_) (fun c1 => ?_)
  · rw [if_pos c1] at hf
    refine J_iconst Z.1 (v := 1) (by decide) dX13_pour_219 ?_
    cases hf
    exact J_zret Z.1 Z.2.2.2.2.2 (z_n (Or.inr rfl)) dX13_pour_220
  · rw [if_neg c1] at hf
    refine J_iload Z.1 6 dX13_pour_165 rfl ?_
    refine J_if_eq Z.1 180 dX13_pour_167 (by decide) (fun c2 => ?_) (fun c2 => ?_)
    · rw [if_pos c2] at hf
      refine J_iload Z.1 7 dX13_pour_180 rfl ?_
      exact pX13_pour_b182_ok Z hK t0 hk158 _ _ _ _ hf
    · rw [if_neg c2] at hf
      refine J_iload Z.1 5 dX13_pour_170 rfl ?_
      refine J_iconst Z.1 (v := 1) (by decide) dX13_pour_172 ?_
      refine J_isub Z.1 dX13_pour_173 ?_
      refine J_iload Z.1 7 dX13_pour_174 rfl ?_
      refine J_isub Z.1 dX13_pour_176 ?_
      refine J_goto Z.1 182 dX13_pour_177 (by decide) ?_
      exact pX13_pour_b182_ok Z hK t0 hk158 _ _ _ _ hf
def pX13_pour_l158 (g : MT) (this : Nat) (p1 : Int32) (p2 : Int32) (p3 : Int32) (p4 : Int32) (p5 : Int32) : Nat → Int32 → Int32 → CT → Option ((Int32) × CT)
  | 0, _, _, _ => none
  | n + 1, l6, l7, h => pX13_pour_b158 g this p1 p2 p3 p4 p5 (pX13_pour_l158 g this p1 p2 p3 p4 p5 n) l6 l7 h
theorem pX13_pour_l158_ok {X : Cx} {G : Gx} {dk : Nat} {g : MT} {r0 : Int32} {h0 : CT} {this : Nat} {p1 : Int32} {p2 : Int32} {p3 : Int32} {p4 : Int32} {p5 : Int32} (Z : Zx X G cX13_pour RX13 9 dk (some .boolean) (some (.int r0)) g h0) (hK : 1 ≤ dk) (t0 : gT g this = 12) : ∀ (n : Nat) (l6 : Int32) (l7 : Int32) (h : CT), pX13_pour_l158 g this p1 p2 p3 p4 p5 n l6 l7 h = some (r0, h0) → J X g h 158 [(0, va_rf (some this)), (1, .int p1), (2, .int p2), (3, .int p3), (4, .int p4), (5, .int p5), (6, .int l6), (7, .int l7)] [] := by
  intro n
  induction n with
  | zero => intro l6 l7 h hf; cases hf
  | succ n ih => intro l6 l7 h hf; exact pX13_pour_b158_ok Z hK t0 ih l6 l7 h hf
def pX13_pour_b153 (g : MT) (this : Nat) (p1 : Int32) (p2 : Int32) (p3 : Int32) (p4 : Int32) (p5 : Int32) (s0 : Int32) (h : CT) : Option ((Int32) × CT) := pX13_pour_l158 g this p1 p2 p3 p4 p5  FUEL s0 0 h
set_option maxRecDepth 10000 in
set_option maxHeartbeats 4000000 in
theorem pX13_pour_b153_ok {X : Cx} {G : Gx} {dk : Nat} {g : MT} {r0 : Int32} {h0 : CT} {this : Nat} {p1 : Int32} {p2 : Int32} {p3 : Int32} {p4 : Int32} {p5 : Int32} (Z : Zx X G cX13_pour RX13 9 dk (some .boolean) (some (.int r0)) g h0) (hK : 1 ≤ dk) (t0 : gT g this = 12) (s0 : Int32) (h : CT) (hf : pX13_pour_b153 g this p1 p2 p3 p4 p5 s0 h = some (r0, h0)) : J X g h 153 [(0, va_rf (some this)), (1, .int p1), (2, .int p2), (3, .int p3), (4, .int p4), (5, .int p5)] [.int s0] := by
  unfold pX13_pour_b153 at hf
  refine J_istore Z.1 (lv2 := [(6, .int s0), (0, va_rf (some this)), (1, .int p1), (2, .int p2), (3, .int p3), (4, .int p4), (5, .int p5)]) dX13_pour_153 (zL Z (by decide)) rfl ?_
  refine J_iconst Z.1 (v := 0) (by decide) dX13_pour_155 ?_
  refine J_istore Z.1 (lv2 := [(7, .int 0), (6, .int s0), (0, va_rf (some this)), (1, .int p1), (2, .int p2), (3, .int p3), (4, .int p4), (5, .int p5)]) dX13_pour_156 (zL Z (by decide)) rfl ?_
  refine J_lv [2, 3, 4, 5, 6, 7, 1, 0] rfl ?_
  exact pX13_pour_l158_ok Z hK t0  FUEL _ _ _ hf
def pX13_pour (g : MT) (h : CT) (this : Nat) (p1 : Int32) (p2 : Int32) (p3 : Int32) (p4 : Int32) (p5 : Int32) : Option ((Int32) × CT) := tg g this 12 (lt (sI h this 1 0) fun h1 => (lt (sI h1 this 0 0) fun h2 => (if p1 < 0 then pX13_pour_b28 g this p1 p2 p3 p4 p5  h2 else if 4 ≤ p1 then pX13_pour_b28 g this p1 p2 p3 p4 p5  h2 else if p3 < 0 then pX13_pour_b28 g this p1 p2 p3 p4 p5  h2 else if p3 < 4 then lt (hR h2 this 5) fun r7 => (nn r7 fun a7 => (tg g a7 20 (ix (gL g a7) p1 (if (hI h2 a7 (Int32.toNatClampNeg p1)) < 0 then pX13_pour_b52 g this p1 p2 p3 p4 p5  h2 else lt (hR h2 this 5) fun r11 => (nn r11 fun a11 => (tg g a11 20 (ix (gL g a11) p3 (if 0 ≤ (hI h2 a11 (Int32.toNatClampNeg p3)) then lt (hR h2 this 4) fun r15 => (nn r15 fun a15 => (tg g a15 20 (ix (gL g a15) p1 (lt (hR h2 this 4) fun r18 => (nn r18 fun a18 => (tg g a18 20 (ix (gL g a18) p3 (if (hI h2 a15 (Int32.toNatClampNeg p1)) = (hI h2 a18 (Int32.toNatClampNeg p3)) then if 0 ≤ p5 then if p2 < 0 then pX13_pour_b136 g this p1 p2 p3 p4 p5  h2 else if p4 < 0 then pX13_pour_b136 g this p1 p2 p3 p4 p5  h2 else lt (hR h2 this 5) fun r25 => (nn r25 fun a25 => (tg g a25 20 (ix (gL g a25) p1 (if 0 < (lg_cmp ((Int32.toInt64 p2) + (Int32.toInt64 p5)) (Int32.toInt64 (hI h2 a25 (Int32.toNatClampNeg p1)))) then pX13_pour_b136 g this p1 p2 p3 p4 p5  h2 else lt (hR h2 this 5) fun r29 => (nn r29 fun a29 => (tg g a29 20 (ix (gL g a29) p3 (if (lg_cmp ((Int32.toInt64 p4) + (Int32.toInt64 p5)) (Int32.toInt64 (hI h2 a29 (Int32.toNatClampNeg p3)))) ≤ 0 then if p4 ≤ p2 then pX13_pour_b153 g this p1 p2 p3 p4 p5  0 h2 else pX13_pour_b153 g this p1 p2 p3 p4 p5  1 h2 else pX13_pour_b136 g this p1 p2 p3 p4 p5  h2)))))))) else bd2 (pX13_no g h2 this 6) fun x36 h34 => (bz x36 (some (x36, h34))) else bd2 (pX13_no g h2 this 11) fun x40 h38 => (bz x40 (some (x40, h38))))))))))) else pX13_pour_b52 g this p1 p2 p3 p4 p5  h2)))))))) else pX13_pour_b28 g this p1 p2 p3 p4 p5  h2)))
set_option maxRecDepth 10000 in
set_option maxHeartbeats 4000000 in
theorem pX13_pour_ok (G : Gx) (dk : Nat) (hK : 1 ≤ dk) {g : MT} {h h0 : CT} {this : Nat} {p1 : Int32} {p2 : Int32} {p3 : Int32} {p4 : Int32} {p5 : Int32} {r0 : Int32} (hf : pX13_pour g h this p1 p2 p3 p4 p5 = some (r0, h0)) : Ctr G dk yX13_pour cX13_pour 9 (some .boolean) [va_rf (some this), .int p1, .int p2, .int p3, .int p4, .int p5] g h (some (.int r0)) g h0 := by
  refine Ctr.ofZ (lv := [(0, va_rf (some this)), (1, .int p1), (2, .int p2), (3, .int p3), (4, .int p4), (5, .int p5)]) (by decide +kernel) (by simp [cat_i, cat_l, cat_d, cat_rf]) rfl fun X Z => ?_
  unfold pX13_pour at hf
  replace hf := tg_i hf
  obtain ⟨t0, hf⟩ := hf
  refine J_aload_n Z.1 0 dX13_pour_0 rfl rfl ?_
  refine J_iconst Z.1 (v := 0) (by decide) dX13_pour_1 ?_
  refine J_putI Z.1 dX13_pour_2 fl_X13_71 (fun q => by cases q) t0 rfl rfl (congrArg Value.int (hI_s _ _ _ _)) ?_
  refine J_th (fun h1 eh1 => ?_)
  replace hf := lt_i hf h1 eh1
  refine J_aload_n Z.1 0 dX13_pour_5 rfl rfl ?_
  refine J_iconst Z.1 (v := 0) (by decide) dX13_pour_6 ?_
  refine J_putI Z.1 dX13_pour_7 fl_X13_74 (fun q => by cases q) t0 rfl rfl (congrArg Value.int (hI_s _ _ _ _)) ?_
  refine J_th (fun h2 eh2 => ?_)
  replace hf := lt_i hf h2 eh2
  refine J_iload_n Z.1 1 dX13_pour_10 rfl rfl ?_
  refine J_if_lt Z.1 28 dX13_pour_11 (by decide) (fun c3 => ?_) (fun c3 => ?_)
  · rw [if_pos c3] at hf
    refine J_lv [0] rfl ?_
    exact pX13_pour_b28_ok Z hK t0  _ hf
  · rw [if_neg c3] at hf
    refine J_iload_n Z.1 1 dX13_pour_14 rfl rfl ?_
    refine J_iconst Z.1 (v := 4) (by decide) dX13_pour_15 ?_
    refine J_icmp_ge Z.1 28 dX13_pour_16 (by decide) (fun c4 => ?_) (fun c4 => ?_)
    · rw [if_pos c4] at hf
      refine J_lv [0] rfl ?_
      exact pX13_pour_b28_ok Z hK t0  _ hf
    · rw [if_neg c4] at hf
      refine J_iload_n Z.1 3 dX13_pour_19 rfl rfl ?_
      refine J_if_lt Z.1 28 dX13_pour_20 (by decide) (fun c5 => ?_) (fun c5 => ?_)
      · rw [if_pos c5] at hf
        refine J_lv [0] rfl ?_
        exact pX13_pour_b28_ok Z hK t0  _ hf
      · rw [if_neg c5] at hf
        refine J_iload_n Z.1 3 dX13_pour_23 rfl rfl ?_
        refine J_iconst Z.1 (v := 4) (by decide) dX13_pour_24 ?_
        refine J_icmp_lt Z.1 34 dX13_pour_25 (by decide) (fun c6 => ?_) (fun c6 => ?_)
        · rw [if_pos c6] at hf
          refine J_aload_n Z.1 0 dX13_pour_34 rfl rfl ?_
          refine J_get (v := va_rf (hR h2 this 5)) Z.1 dX13_pour_35 fl_X13_13 t0 rfl ?_
          refine J_tr (fun r7 er7 => ?_)
          replace hf := lt_i hf r7 er7
          refine J_iload_n Z.1 1 dX13_pour_38 rfl rfl ?_
          replace hf := nn_i hf
          obtain ⟨a7, rfl, hf⟩ := hf
          replace hf := tg_i hf
          obtain ⟨t8, hf⟩ := hf
          replace hf := ix_i hf
          obtain ⟨i9, hf⟩ := hf
          refine J_iaload Z.1 dX13_pour_39 t8 i9 ?_
          refine J_if_lt Z.1 52 dX13_pour_40 (by decide) (fun c10 => ?_) (fun c10 => ?_)
          · rw [if_pos c10] at hf
            refine J_lv [0] rfl ?_
            exact pX13_pour_b52_ok Z hK t0  _ hf
          · rw [if_neg c10] at hf
            refine J_aload_n Z.1 0 dX13_pour_43 rfl rfl ?_
            refine J_get (v := va_rf (hR h2 this 5)) Z.1 dX13_pour_44 fl_X13_13 t0 rfl ?_
            refine J_tr (fun r11 er11 => ?_)
            replace hf := lt_i hf r11 er11
            refine J_iload_n Z.1 3 dX13_pour_47 rfl rfl ?_
            replace hf := nn_i hf
            obtain ⟨a11, rfl, hf⟩ := hf
            replace hf := tg_i hf
            obtain ⟨t12, hf⟩ := hf
            replace hf := ix_i hf
            obtain ⟨i13, hf⟩ := hf
            refine J_iaload Z.1 dX13_pour_48 t12 i13 ?_
            refine J_if_ge Z.1 58 dX13_pour_49 (by decide) (fun c14 => ?_) (fun c14 => ?_)
            · rw [if_pos c14] at hf
              refine J_aload_n Z.1 0 dX13_pour_58 rfl rfl ?_
              refine J_get (v := va_rf (hR h2 this 4)) Z.1 dX13_pour_59 fl_X13_7 t0 rfl ?_
              refine J_tr (fun r15 er15 => ?_)
              replace hf := lt_i hf r15 er15
              refine J_iload_n Z.1 1 dX13_pour_62 rfl rfl ?_
              replace hf := nn_i hf
              obtain ⟨a15, rfl, hf⟩ := hf
              replace hf := tg_i hf
              obtain ⟨t16, hf⟩ := hf
              replace hf := ix_i hf
              obtain ⟨i17, hf⟩ := hf
              refine J_iaload Z.1 dX13_pour_63 t16 i17 ?_
              refine J_aload_n Z.1 0 dX13_pour_64 rfl rfl ?_
              refine J_get (v := va_rf (hR h2 this 4)) Z.1 dX13_pour_65 fl_X13_7 t0 rfl ?_
              refine J_tr (fun r18 er18 => ?_)
              replace hf := lt_i hf r18 er18
              refine J_iload_n Z.1 3 dX13_pour_68 rfl rfl ?_
              replace hf := nn_i hf
              obtain ⟨a18, rfl, hf⟩ := hf
              replace hf := tg_i hf
              obtain ⟨t19, hf⟩ := hf
              replace hf := ix_i hf
              obtain ⟨i20, hf⟩ := hf
              refine J_iaload Z.1 dX13_pour_69 t19 i20 ?_
              refine J_icmp_eq Z.1 80 dX13_pour_70 (by decide) (fun c21 => ?_) (fun c21 => ?_)
              · rw [if_pos c21] at hf
                refine J_iload Z.1 5 dX13_pour_80 rfl ?_
                refine J_if_ge Z.1 92 dX13_pour_82 (by decide) (fun c22 => ?_) (fun c22 => ?_)
                · rw [if_pos c22] at hf
                  refine J_iload_n Z.1 2 dX13_pour_92 rfl rfl ?_
                  refine J_if_lt Z.1 136 dX13_pour_93 (by decide) (fun c23 => ?_) (fun c23 => ?_)
                  · rw [if_pos c23] at hf
                    refine J_lv [0] rfl ?_
                    exact pX13_pour_b136_ok Z hK t0  _ hf
                  · rw [if_neg c23] at hf
                    refine J_iload Z.1 4 dX13_pour_96 rfl ?_
                    refine J_if_lt Z.1 136 dX13_pour_98 (by decide) (fun c24 => ?_) (fun c24 => ?_)
                    · rw [if_pos c24] at hf
                      refine J_lv [0] rfl ?_
                      exact pX13_pour_b136_ok Z hK t0  _ hf
                    · rw [if_neg c24] at hf
                      refine J_iload_n Z.1 2 dX13_pour_101 rfl rfl ?_
                      refine J_i2l Z.1 dX13_pour_102 ?_
                      refine J_iload Z.1 5 dX13_pour_103 rfl ?_
                      refine J_i2l Z.1 dX13_pour_105 ?_
                      refine J_ladd Z.1 dX13_pour_106 ?_
                      refine J_aload_n Z.1 0 dX13_pour_107 rfl rfl ?_
                      refine J_get (v := va_rf (hR h2 this 5)) Z.1 dX13_pour_108 fl_X13_13 t0 rfl ?_
                      refine J_tr (fun r25 er25 => ?_)
                      replace hf := lt_i hf r25 er25
                      refine J_iload_n Z.1 1 dX13_pour_111 rfl rfl ?_
                      replace hf := nn_i hf
                      obtain ⟨a25, rfl, hf⟩ := hf
                      replace hf := tg_i hf
                      obtain ⟨t26, hf⟩ := hf
                      replace hf := ix_i hf
                      obtain ⟨i27, hf⟩ := hf
                      refine J_iaload Z.1 dX13_pour_112 t26 i27 ?_
                      refine J_i2l Z.1 dX13_pour_113 ?_
                      refine J_lcmp Z.1 dX13_pour_114 ?_
                      refine J_if_gt Z.1 136 dX13_pour_115 (by decide) (fun c28 => ?_) (fun c28 => ?_)
                      · rw [if_pos c28] at hf
                        refine J_lv [0] rfl ?_
                        exact pX13_pour_b136_ok Z hK t0  _ hf
                      · rw [if_neg c28] at hf
                        refine J_iload Z.1 4 dX13_pour_118 rfl ?_
                        refine J_i2l Z.1 dX13_pour_120 ?_
                        refine J_iload Z.1 5 dX13_pour_121 rfl ?_
                        refine J_i2l Z.1 dX13_pour_123 ?_
                        refine J_ladd Z.1 dX13_pour_124 ?_
                        refine J_aload_n Z.1 0 dX13_pour_125 rfl rfl ?_
                        refine J_get (v := va_rf (hR h2 this 5)) Z.1 dX13_pour_126 fl_X13_13 t0 rfl ?_
                        refine J_tr (fun r29 er29 => ?_)
                        replace hf := lt_i hf r29 er29
                        refine J_iload_n Z.1 3 dX13_pour_129 rfl rfl ?_
                        replace hf := nn_i hf
                        obtain ⟨a29, rfl, hf⟩ := hf
                        replace hf := tg_i hf
                        obtain ⟨t30, hf⟩ := hf
                        replace hf := ix_i hf
                        obtain ⟨i31, hf⟩ := hf
                        refine J_iaload Z.1 dX13_pour_130 t30 i31 ?_
                        refine J_i2l Z.1 dX13_pour_131 ?_
                        refine J_lcmp Z.1 dX13_pour_132 ?_
                        refine J_if_le Z.1 142 dX13_pour_133 (by decide) (fun c32 => ?_) (fun c32 => ?_)
                        · rw [if_pos c32] at hf
                          refine J_iload_n Z.1 2 dX13_pour_142 rfl rfl ?_
                          refine J_iload Z.1 4 dX13_pour_143 rfl ?_
                          refine J_icmp_ge Z.1 152 dX13_pour_145 (by decide) (fun c33 => ?_) (fun c33 => ?_)
                          · rw [if_pos c33] at hf
                            refine J_iconst Z.1 (v := 0) (by decide) dX13_pour_152 ?_
                            exact pX13_pour_b153_ok Z hK t0  _ _ hf
                          · rw [if_neg c33] at hf
                            refine J_iconst Z.1 (v := 1) (by decide) dX13_pour_148 ?_
                            refine J_goto Z.1 153 dX13_pour_149 (by decide) ?_
                            exact pX13_pour_b153_ok Z hK t0  _ _ hf
                        · rw [if_neg c32] at hf
                          refine J_lv [0] rfl ?_
                          exact pX13_pour_b136_ok Z hK t0  _ hf
                · rw [if_neg c22] at hf
                  refine J_aload_n Z.1 0 dX13_pour_85 rfl rfl ?_
                  refine J_bipush Z.1 (v := 6) (by decide) dX13_pour_86 ?_
                  replace hf := bd2_i hf
                  obtain ⟨x36, h34, q35, hf⟩ := hf
                  refine J_callV (ci := 11) (as := [.int 6]) (rest := []) (sy := [.int x36]) Z.1 dX13_pour_88 cw_X13_84 (pX13_no_ok G (dk - 1) (by omega) q35) rfl rfl t0 (zG Z) rfl (by decide) (zF Z (by omega)) (zO Z (by omega) (by decide)) (zM _) Z.2.1 Z.2.1 rfl rfl ?_
                  replace hf := bz_i hf
                  obtain ⟨z37, hf⟩ := hf
                  cases hf
                  exact J_zret Z.1 Z.2.2.2.2.2 (z_n z37) dX13_pour_91
              · rw [if_neg c21] at hf
                refine J_aload_n Z.1 0 dX13_pour_73 rfl rfl ?_
                refine J_bipush Z.1 (v := 11) (by decide) dX13_pour_74 ?_
                replace hf := bd2_i hf
                obtain ⟨x40, h38, q39, hf⟩ := hf
                refine J_callV (ci := 11) (as := [.int 11]) (rest := []) (sy := [.int x40]) Z.1 dX13_pour_76 cw_X13_84 (pX13_no_ok G (dk - 1) (by omega) q39) rfl rfl t0 (zG Z) rfl (by decide) (zF Z (by omega)) (zO Z (by omega) (by decide)) (zM _) Z.2.1 Z.2.1 rfl rfl ?_
                replace hf := bz_i hf
                obtain ⟨z41, hf⟩ := hf
                cases hf
                exact J_zret Z.1 Z.2.2.2.2.2 (z_n z41) dX13_pour_79
            · rw [if_neg c14] at hf
              refine J_lv [0] rfl ?_
              exact pX13_pour_b52_ok Z hK t0  _ hf
        · rw [if_neg c6] at hf
          refine J_lv [0] rfl ?_
          exact pX13_pour_b28_ok Z hK t0  _ hf
theorem dX13_numberOf_0 : decode cX13_numberOf 0 = .ok (.aload_n 0, 1) := by decide +kernel
theorem dX13_numberOf_1 : decode cX13_numberOf 1 = .ok (.getfield 16, 3) := by decide +kernel
theorem dX13_numberOf_4 : decode cX13_numberOf 4 = .ok (.bipush 60, 2) := by decide +kernel
theorem dX13_numberOf_6 : decode cX13_numberOf 6 = .ok (.iload_n 1, 1) := by decide +kernel
theorem dX13_numberOf_7 : decode cX13_numberOf 7 = .ok (.imul, 1) := by decide +kernel
theorem dX13_numberOf_8 : decode cX13_numberOf 8 = .ok (.iload_n 2, 1) := by decide +kernel
theorem dX13_numberOf_9 : decode cX13_numberOf 9 = .ok (.iadd, 1) := by decide +kernel
theorem dX13_numberOf_10 : decode cX13_numberOf 10 = .ok (.laload, 1) := by decide +kernel
theorem dX13_numberOf_11 : decode cX13_numberOf 11 = .ok (.lreturn, 1) := by decide +kernel
def pX13_numberOf (g : MT) (h : CT) (this : Nat) (p1 : Int32) (p2 : Int32) : Option Int64 := tg g this 12 (lt (hR h this 6) fun r1 => (nn r1 fun a1 => (tg g a1 21 (ix (gL g a1) ((60 * p1) + p2) (some (hL h a1 (Int32.toNatClampNeg ((60 * p1) + p2))))))))
set_option maxRecDepth 10000 in
set_option maxHeartbeats 4000000 in
theorem pX13_numberOf_ok (G : Gx) (dk : Nat) (hK : 0 ≤ dk) {g : MT} {h : CT} {this : Nat} {p1 : Int32} {p2 : Int32} {r0 : Int64} (hf : pX13_numberOf g h this p1 p2 = some r0) : Ctr G dk yX13_numberOf cX13_numberOf 3 (some .long) [va_rf (some this), .int p1, .int p2] g h (some (.long r0)) g h := by
  refine Ctr.ofZ (lv := [(0, va_rf (some this)), (1, .int p1), (2, .int p2)]) (by decide +kernel) (by simp [cat_i, cat_l, cat_d, cat_rf]) rfl fun X Z => ?_
  unfold pX13_numberOf at hf
  replace hf := tg_i hf
  obtain ⟨t0, hf⟩ := hf
  refine J_aload_n Z.1 0 dX13_numberOf_0 rfl rfl ?_
  refine J_get (v := va_rf (hR h this 6)) Z.1 dX13_numberOf_1 fl_X13_16 t0 rfl ?_
  refine J_tr (fun r1 er1 => ?_)
  replace hf := lt_i hf r1 er1
  refine J_bipush Z.1 (v := 60) (by decide) dX13_numberOf_4 ?_
  refine J_iload_n Z.1 1 dX13_numberOf_6 rfl rfl ?_
  refine J_imul Z.1 dX13_numberOf_7 ?_
  refine J_iload_n Z.1 2 dX13_numberOf_8 rfl rfl ?_
  refine J_iadd Z.1 dX13_numberOf_9 ?_
  replace hf := nn_i hf
  obtain ⟨a1, rfl, hf⟩ := hf
  replace hf := tg_i hf
  obtain ⟨t2, hf⟩ := hf
  replace hf := ix_i hf
  obtain ⟨i3, hf⟩ := hf
  refine J_laload Z.1 dX13_numberOf_10 t2 i3 ?_
  cases hf
  exact J_lret Z.1 Z.2.2.2.2.2 dX13_numberOf_11
theorem dX13_isTray_0 : decode cX13_isTray 0 = .ok (.iload_n 1, 1) := by decide +kernel
theorem dX13_isTray_1 : decode cX13_isTray 1 = .ok (.i2l, 1) := by decide +kernel
theorem dX13_isTray_2 : decode cX13_isTray 2 = .ok (.lconst 0, 1) := by decide +kernel
theorem dX13_isTray_3 : decode cX13_isTray 3 = .ok (.ldc2_w 102, 3) := by decide +kernel
theorem dX13_isTray_6 : decode cX13_isTray 6 = .ok (.invokestatic 104, 3) := by decide +kernel
theorem dX13_isTray_9 : decode cX13_isTray 9 = .ok (.ireturn, 1) := by decide +kernel
def pX13_isTray (this : Nat) (p1 : Int32) : Int32 := (pX13_isIn (Int32.toInt64 p1) 0 3)
set_option maxRecDepth 10000 in
set_option maxHeartbeats 4000000 in
theorem pX13_isTray_ok (G : Gx) (dk : Nat) (hK : 1 ≤ dk) (g : MT) (h0 : CT) (this : Nat) (p1 : Int32) : Ctr G dk yX13_isTray cX13_isTray 2 (some .boolean) [va_rf (some this), .int p1] g h0 (some (.int (pX13_isTray this p1))) g h0 := by
  obtain ⟨r0, hf⟩ : ∃ z, pX13_isTray this p1 = z := ⟨_, rfl⟩
  rw [hf]
  refine Ctr.ofZ (lv := [(0, va_rf (some this)), (1, .int p1)]) (by decide +kernel) (by simp [cat_i, cat_l, cat_d, cat_rf]) rfl fun X Z => ?_
  unfold pX13_isTray at hf
  refine J_iload_n Z.1 1 dX13_isTray_0 rfl rfl ?_
  refine J_i2l Z.1 dX13_isTray_1 ?_
  refine J_lconst Z.1 (v := 0) (by decide) dX13_isTray_2 ?_
  refine J_ldc2 Z.1 q_1782 dX13_isTray_3 ?_
  refine J_callS (as := [.long (Int32.toInt64 p1), .long 0, .long 3]) (rest := []) (sy := [.int (pX13_isIn (Int32.toInt64 p1) 0 3)]) Z.1 dX13_isTray_6 cw_X13_104 (pX13_isIn_ok G (dk - 1) (by omega) g h0 (Int32.toInt64 p1) 0 3) (zG Z) rfl (by decide) (zF Z (by omega)) (zO Z (by omega) (by decide)) (zM _) Z.2.1 Z.2.1 rfl rfl ?_
  cases hf
  exact J_zret Z.1 Z.2.2.2.2.2 (z_n (pX13_isIn_z (Int32.toInt64 p1) 0 3)) dX13_isTray_9
theorem pX13_isTray_z (this : Nat) (p1 : Int32) : is01 (pX13_isTray this p1) := by
  unfold pX13_isTray
  (try split) <;> (try split) <;> (try split) <;> (try split) <;> (try split) <;> (try split) <;> (try split) <;> (try split) <;> first | exact Or.inl rfl | exact Or.inr rfl | exact pX13_isIn_z _ _ _
