/-! written by wip/whole/gen.py out of the printed bytecode -/
theorem dX6_parse_0 : decode cX6_parse 0 = .ok (.aload_n 0, 1) := by decide +kernel
theorem dX6_parse_1 : decode cX6_parse 1 = .ok (.aload_n 1, 1) := by decide +kernel
theorem dX6_parse_2 : decode cX6_parse 2 = .ok (.putfield 18, 3) := by decide +kernel
theorem dX6_parse_5 : decode cX6_parse 5 = .ok (.aload_n 0, 1) := by decide +kernel
theorem dX6_parse_6 : decode cX6_parse 6 = .ok (.iload_n 2, 1) := by decide +kernel
theorem dX6_parse_7 : decode cX6_parse 7 = .ok (.aload_n 1, 1) := by decide +kernel
theorem dX6_parse_8 : decode cX6_parse 8 = .ok (.arraylength, 1) := by decide +kernel
theorem dX6_parse_9 : decode cX6_parse 9 = .ok (.invokestatic 28, 3) := by decide +kernel
theorem dX6_parse_12 : decode cX6_parse 12 = .ok (.putfield 34, 3) := by decide +kernel
theorem dX6_parse_15 : decode cX6_parse 15 = .ok (.aload_n 0, 1) := by decide +kernel
theorem dX6_parse_16 : decode cX6_parse 16 = .ok (.iconst 0, 1) := by decide +kernel
theorem dX6_parse_17 : decode cX6_parse 17 = .ok (.putfield 37, 3) := by decide +kernel
theorem dX6_parse_20 : decode cX6_parse 20 = .ok (.aload_n 0, 1) := by decide +kernel
theorem dX6_parse_21 : decode cX6_parse 21 = .ok (.new 40, 3) := by decide +kernel
theorem dX6_parse_24 : decode cX6_parse 24 = .ok (.dup, 1) := by decide +kernel
theorem dX6_parse_25 : decode cX6_parse 25 = .ok (.invokespecial 42, 3) := by decide +kernel
theorem dX6_parse_28 : decode cX6_parse 28 = .ok (.putfield 43, 3) := by decide +kernel
theorem dX6_parse_31 : decode cX6_parse 31 = .ok (.aload_n 0, 1) := by decide +kernel
theorem dX6_parse_32 : decode cX6_parse 32 = .ok (.aconst_null, 1) := by decide +kernel
theorem dX6_parse_33 : decode cX6_parse 33 = .ok (.putfield 47, 3) := by decide +kernel
theorem dX6_parse_36 : decode cX6_parse 36 = .ok (.aload_n 0, 1) := by decide +kernel
theorem dX6_parse_37 : decode cX6_parse 37 = .ok (.ldc 22, 2) := by decide +kernel
theorem dX6_parse_39 : decode cX6_parse 39 = .ok (.putfield 24, 3) := by decide +kernel
theorem dX6_parse_42 : decode cX6_parse 42 = .ok (.aload_n 0, 1) := by decide +kernel
theorem dX6_parse_43 : decode cX6_parse 43 = .ok (.iconst 0, 1) := by decide +kernel
theorem dX6_parse_44 : decode cX6_parse 44 = .ok (.putfield 51, 3) := by decide +kernel
theorem dX6_parse_47 : decode cX6_parse 47 = .ok (.aload_n 0, 1) := by decide +kernel
theorem dX6_parse_48 : decode cX6_parse 48 = .ok (.aconst_null, 1) := by decide +kernel
theorem dX6_parse_49 : decode cX6_parse 49 = .ok (.putfield 54, 3) := by decide +kernel
theorem dX6_parse_52 : decode cX6_parse 52 = .ok (.aload_n 0, 1) := by decide +kernel
theorem dX6_parse_53 : decode cX6_parse 53 = .ok (.iconst 0, 1) := by decide +kernel
theorem dX6_parse_54 : decode cX6_parse 54 = .ok (.putfield 9, 3) := by decide +kernel
theorem dX6_parse_57 : decode cX6_parse 57 = .ok (.aload_n 0, 1) := by decide +kernel
theorem dX6_parse_58 : decode cX6_parse 58 = .ok (.iconst (-1), 1) := by decide +kernel
theorem dX6_parse_59 : decode cX6_parse 59 = .ok (.putfield 15, 3) := by decide +kernel
theorem dX6_parse_62 : decode cX6_parse 62 = .ok (.iconst 0, 1) := by decide +kernel
theorem dX6_parse_63 : decode cX6_parse 63 = .ok (.istore_n 3, 1) := by decide +kernel
theorem dX6_parse_64 : decode cX6_parse 64 = .ok (.iload_n 3, 1) := by decide +kernel
theorem dX6_parse_65 : decode cX6_parse 65 = .ok (.aload_n 0, 1) := by decide +kernel
theorem dX6_parse_66 : decode cX6_parse 66 = .ok (.getfield 34, 3) := by decide +kernel
theorem dX6_parse_69 : decode cX6_parse 69 = .ok (.if_icmp .gt 50, 3) := by decide +kernel
theorem dX6_parse_72 : decode cX6_parse 72 = .ok (.aload_n 0, 1) := by decide +kernel
theorem dX6_parse_73 : decode cX6_parse 73 = .ok (.getfield 9, 3) := by decide +kernel
theorem dX6_parse_76 : decode cX6_parse 76 = .ok (.ifCond .ne 43, 3) := by decide +kernel
theorem dX6_parse_79 : decode cX6_parse 79 = .ok (.aload_n 0, 1) := by decide +kernel
theorem dX6_parse_80 : decode cX6_parse 80 = .ok (.invokevirtual 57, 3) := by decide +kernel
theorem dX6_parse_83 : decode cX6_parse 83 = .ok (.ifCond .eq 36, 3) := by decide +kernel
theorem dX6_parse_86 : decode cX6_parse 86 = .ok (.aload_n 0, 1) := by decide +kernel
theorem dX6_parse_87 : decode cX6_parse 87 = .ok (.aload_n 0, 1) := by decide +kernel
theorem dX6_parse_88 : decode cX6_parse 88 = .ok (.invokevirtual 61, 3) := by decide +kernel
theorem dX6_parse_91 : decode cX6_parse 91 = .ok (.putfield 9, 3) := by decide +kernel
theorem dX6_parse_94 : decode cX6_parse 94 = .ok (.aload_n 0, 1) := by decide +kernel
theorem dX6_parse_95 : decode cX6_parse 95 = .ok (.aload_n 0, 1) := by decide +kernel
theorem dX6_parse_96 : decode cX6_parse 96 = .ok (.getfield 9, 3) := by decide +kernel
theorem dX6_parse_99 : decode cX6_parse 99 = .ok (.ifCond .ne 7, 3) := by decide +kernel
theorem dX6_parse_102 : decode cX6_parse 102 = .ok (.iconst (-1), 1) := by decide +kernel
theorem dX6_parse_103 : decode cX6_parse 103 = .ok (.goto 7, 3) := by decide +kernel
theorem dX6_parse_106 : decode cX6_parse 106 = .ok (.aload_n 0, 1) := by decide +kernel
theorem dX6_parse_107 : decode cX6_parse 107 = .ok (.getfield 65, 3) := by decide +kernel
theorem dX6_parse_110 : decode cX6_parse 110 = .ok (.putfield 15, 3) := by decide +kernel
theorem dX6_parse_113 : decode cX6_parse 113 = .ok (.iinc 3 1, 3) := by decide +kernel
theorem dX6_parse_116 : decode cX6_parse 116 = .ok (.goto (-52), 3) := by decide +kernel
theorem dX6_parse_119 : decode cX6_parse 119 = .ok (.aload_n 0, 1) := by decide +kernel
theorem dX6_parse_120 : decode cX6_parse 120 = .ok (.getfield 9, 3) := by decide +kernel
theorem dX6_parse_123 : decode cX6_parse 123 = .ok (.ifCond .ne 37, 3) := by decide +kernel
theorem dX6_parse_126 : decode cX6_parse 126 = .ok (.aload_n 0, 1) := by decide +kernel
theorem dX6_parse_127 : decode cX6_parse 127 = .ok (.getfield 51, 3) := by decide +kernel
theorem dX6_parse_130 : decode cX6_parse 130 = .ok (.aload_n 0, 1) := by decide +kernel
theorem dX6_parse_131 : decode cX6_parse 131 = .ok (.getfield 24, 3) := by decide +kernel
theorem dX6_parse_134 : decode cX6_parse 134 = .ok (.invokevirtual 68, 3) := by decide +kernel
theorem dX6_parse_137 : decode cX6_parse 137 = .ok (.if_icmp .lt 10, 3) := by decide +kernel
theorem dX6_parse_140 : decode cX6_parse 140 = .ok (.aload_n 0, 1) := by decide +kernel
theorem dX6_parse_141 : decode cX6_parse 141 = .ok (.getfield 54, 3) := by decide +kernel
theorem dX6_parse_144 : decode cX6_parse 144 = .ok (.ifnull 16, 3) := by decide +kernel
theorem dX6_parse_147 : decode cX6_parse 147 = .ok (.aload_n 0, 1) := by decide +kernel
theorem dX6_parse_148 : decode cX6_parse 148 = .ok (.iconst 2, 1) := by decide +kernel
theorem dX6_parse_149 : decode cX6_parse 149 = .ok (.putfield 9, 3) := by decide +kernel
theorem dX6_parse_152 : decode cX6_parse 152 = .ok (.aload_n 0, 1) := by decide +kernel
theorem dX6_parse_153 : decode cX6_parse 153 = .ok (.aload_n 0, 1) := by decide +kernel
theorem dX6_parse_154 : decode cX6_parse 154 = .ok (.getfield 34, 3) := by decide +kernel
theorem dX6_parse_157 : decode cX6_parse 157 = .ok (.putfield 15, 3) := by decide +kernel
theorem dX6_parse_160 : decode cX6_parse 160 = .ok (.aload_n 0, 1) := by decide +kernel
theorem dX6_parse_161 : decode cX6_parse 161 = .ok (.getfield 9, 3) := by decide +kernel
theorem dX6_parse_164 : decode cX6_parse 164 = .ok (.ifCond .ne 10, 3) := by decide +kernel
theorem dX6_parse_167 : decode cX6_parse 167 = .ok (.aload_n 0, 1) := by decide +kernel
theorem dX6_parse_168 : decode cX6_parse 168 = .ok (.getfield 43, 3) := by decide +kernel
theorem dX6_parse_171 : decode cX6_parse 171 = .ok (.goto 4, 3) := by decide +kernel
theorem dX6_parse_174 : decode cX6_parse 174 = .ok (.aconst_null, 1) := by decide +kernel
theorem dX6_parse_175 : decode cX6_parse 175 = .ok (.areturn, 1) := by decide +kernel
def pX6_parse_b160 (E : EC) (this : Nat) (p1 : Nat) (p2 : Int32) (g : MT) (h : CT) : Option ((Option Nat) × MT × CT) := tg g this 5 (if (hI h this 0) = 0 then lt (hR h this 7) fun r3 => (some (r3, g, h)) else some (none, g, h))
set_option maxRecDepth 10000 in
set_option maxHeartbeats 4000000 in
theorem pX6_parse_b160_ok {X : Cx} {G : Gx} {dk : Nat} {g0 : MT} {r0 : Option Nat} {h0 : CT} {this : Nat} {p1 : Nat} {p2 : Int32} (Z : Zy X G cX6_parse RX6 4 dk (some (.object "VectorPipes$Program")) (some (va_rf r0)) "parse" g0 h0) (hK : 8 ≤ dk) {E : EC} (hE : G.2.2.2 = E) (g : MT) (h : CT) (M : RM X g) (hf : pX6_parse_b160 E this p1 p2 g h = some (r0, g0, h0)) : J X g h 160 [(0, va_rf (some this))] [] := by
  unfold pX6_parse_b160 at hf
  refine J_aload_n Z.1 0 dX6_parse_160 rfl rfl ?_
  replace hf := tg_i hf
  obtain ⟨t1, hf⟩ := hf
  refine J_get (v := .int (hI h this 0)) Z.1 dX6_parse_161 fl_X6_9 t1 rfl ?_
  refine J_if_ne Z.1 174 dX6_parse_164 (by decide) (fun c2 => ?_) (fun c2 => ?_)
  · rw [if_neg c2] at hf
    refine J_null Z.1 dX6_parse_174 ?_
    cases hf
    exact J_aret Z.1 Z.2.2.2.2.1 dX6_parse_175
  · rw [if_pos c2] at hf
    refine J_aload_n Z.1 0 dX6_parse_167 rfl rfl ?_
    refine J_get (v := va_rf (hR h this 7)) Z.1 dX6_parse_168 fl_X6_43 t1 rfl ?_
    refine J_tr (fun r3 er3 => ?_)
    replace hf := lt_i hf r3 er3
    refine J_goto Z.1 175 dX6_parse_171 (by decide) ?_
    cases hf
    exact J_aret Z.1 Z.2.2.2.2.1 dX6_parse_175
def pX6_parse_b147 (E : EC) (this : Nat) (p1 : Nat) (p2 : Int32) (g : MT) (h : CT) : Option ((Option Nat) × MT × CT) := tg g this 5 (lt (sI h this 0 2) fun h2 => (lt (sI h2 this 1 (hI h2 this 3)) fun h3 => (pX6_parse_b160 E this p1 p2  g h3)))
set_option maxRecDepth 10000 in
set_option maxHeartbeats 4000000 in
theorem pX6_parse_b147_ok {X : Cx} {G : Gx} {dk : Nat} {g0 : MT} {r0 : Option Nat} {h0 : CT} {this : Nat} {p1 : Nat} {p2 : Int32} (Z : Zy X G cX6_parse RX6 4 dk (some (.object "VectorPipes$Program")) (some (va_rf r0)) "parse" g0 h0) (hK : 8 ≤ dk) {E : EC} (hE : G.2.2.2 = E) (g : MT) (h : CT) (M : RM X g) (hf : pX6_parse_b147 E this p1 p2 g h = some (r0, g0, h0)) : J X g h 147 [(0, va_rf (some this))] [] := by
  unfold pX6_parse_b147 at hf
  refine J_aload_n Z.1 0 dX6_parse_147 rfl rfl ?_
  refine J_iconst Z.1 (v := 2) (by decide) dX6_parse_148 ?_
  replace hf := tg_i hf
  obtain ⟨t1, hf⟩ := hf
  refine J_putI Z.1 dX6_parse_149 fl_X6_9 (fun q => by cases q) t1 rfl rfl (congrArg Value.int (hI_s _ _ _ _)) ?_
  refine J_th (fun h2 eh2 => ?_)
  replace hf := lt_i hf h2 eh2
  refine J_aload_n Z.1 0 dX6_parse_152 rfl rfl ?_
  refine J_aload_n Z.1 0 dX6_parse_153 rfl rfl ?_
  refine J_get (v := .int (hI h2 this 3)) Z.1 dX6_parse_154 fl_X6_34 t1 rfl ?_
  refine J_putI Z.1 dX6_parse_157 fl_X6_15 (fun q => by cases q) t1 rfl rfl (congrArg Value.int (hI_s _ _ _ _)) ?_
  refine J_th (fun h3 eh3 => ?_)
  replace hf := lt_i hf h3 eh3
  exact pX6_parse_b160_ok Z hK hE  _ _ M hf
def pX6_parse_b119 (E : EC) (this : Nat) (p1 : Nat) (p2 : Int32) (g : MT) (h : CT) : Option ((Option Nat) × MT × CT) := tg g this 5 (if (hI h this 0) = 0 then lt (hR h this 9) fun r3 => (nn r3 fun a3 => (tg E.2.2 a3 61 (bd (pJ0_length_8abf5 E g h a3) fun x5 => (if (hI h this 10) < x5 then pX6_parse_b147 E this p1 p2  g h else lt (hR h this 11) fun r8 => (if r8 = none then pX6_parse_b160 E this p1 p2  g h else pX6_parse_b147 E this p1 p2  g h))))) else pX6_parse_b160 E this p1 p2  g h)
set_option maxRecDepth 10000 in
set_option maxHeartbeats 4000000 in
theorem pX6_parse_b119_ok {X : Cx} {G : Gx} {dk : Nat} {g0 : MT} {r0 : Option Nat} {h0 : CT} {this : Nat} {p1 : Nat} {p2 : Int32} (Z : Zy X G cX6_parse RX6 4 dk (some (.object "VectorPipes$Program")) (some (va_rf r0)) "parse" g0 h0) (hK : 8 ≤ dk) {E : EC} (hE : G.2.2.2 = E) (g : MT) (h : CT) (M : RM X g) (hf : pX6_parse_b119 E this p1 p2 g h = some (r0, g0, h0)) : J X g h 119 [(0, va_rf (some this))] [] := by
  unfold pX6_parse_b119 at hf
  refine J_aload_n Z.1 0 dX6_parse_119 rfl rfl ?_
  replace hf := tg_i hf
  obtain ⟨t1, hf⟩ := hf
  refine J_get (v := .int (hI h this 0)) Z.1 dX6_parse_120 fl_X6_9 t1 rfl ?_
  refine J_if_ne Z.1 160 dX6_parse_123 (by decide) (fun c2 => ?_) (fun c2 => ?_)
  · rw [if_neg c2] at hf
    exact pX6_parse_b160_ok Z hK hE  _ _ M hf
  · rw [if_pos c2] at hf
    refine J_aload_n Z.1 0 dX6_parse_126 rfl rfl ?_
    refine J_get (v := .int (hI h this 10)) Z.1 dX6_parse_127 fl_X6_51 t1 rfl ?_
    refine J_aload_n Z.1 0 dX6_parse_130 rfl rfl ?_
    refine J_get (v := va_rf (hR h this 9)) Z.1 dX6_parse_131 fl_X6_24 t1 rfl ?_
    refine J_tr (fun r3 er3 => ?_)
    replace hf := lt_i hf r3 er3
    replace hf := nn_i hf
    obtain ⟨a3, rfl, hf⟩ := hf
    replace hf := tg_i hf
    obtain ⟨t4, hf⟩ := hf
    rw [← yE Z hE] at t4
    replace hf := bd_i hf
    obtain ⟨x5, q6, hf⟩ := hf
    refine J_callK (as := []) (rest := [.int (hI h this 10)]) (sy := [.int x5, .int (hI h this 10)]) Z.1 dX6_parse_134 cw_X6_68 (pJ0_length_8abf5_ok G (dk - 1) (by omega) hE q6) (kT Z.1 t4) (yG Z) rfl (by simp [cat_i, cat_l, cat_d, cat_rf]) (yF Z (by omega)) (yO Z (by omega) (by decide)) (zM _) M M rfl rfl ?_
    refine J_icmp_lt Z.1 147 dX6_parse_137 (by decide) (fun c7 => ?_) (fun c7 => ?_)
    · rw [if_pos c7] at hf
      exact pX6_parse_b147_ok Z hK hE  _ _ M hf
    · rw [if_neg c7] at hf
      refine J_aload_n Z.1 0 dX6_parse_140 rfl rfl ?_
      refine J_get (v := va_rf (hR h this 11)) Z.1 dX6_parse_141 fl_X6_54 t1 rfl ?_
      refine J_tr (fun r8 er8 => ?_)
      replace hf := lt_i hf r8 er8
      refine J_ifnull Z.1 160 dX6_parse_144 (by decide) (fun c9 => ?_) (fun c9 => ?_)
      · rw [if_pos c9] at hf
        exact pX6_parse_b160_ok Z hK hE  _ _ M hf
      · rw [if_neg c9] at hf
        exact pX6_parse_b147_ok Z hK hE  _ _ M hf
def pX6_parse_b110 (E : EC) (this : Nat) (p1 : Nat) (p2 : Int32) (k64 : Int32 → MT → CT → Option ((Option Nat) × MT × CT)) (l3 : Int32) (s0 : Nat) (s1 : Int32) (g : MT) (h : CT) : Option ((Option Nat) × MT × CT) := tg g s0 5 (lt (sI h s0 1 s1) fun h2 => (lt (l3 + 1) fun x3 => (k64 x3 g h2)))
set_option maxRecDepth 10000 in
set_option maxHeartbeats 4000000 in
theorem pX6_parse_b110_ok {X : Cx} {G : Gx} {dk : Nat} {g0 : MT} {r0 : Option Nat} {h0 : CT} {this : Nat} {p1 : Nat} {p2 : Int32} {k64 : Int32 → MT → CT → Option ((Option Nat) × MT × CT)} (Z : Zy X G cX6_parse RX6 4 dk (some (.object "VectorPipes$Program")) (some (va_rf r0)) "parse" g0 h0) (hK : 8 ≤ dk) {E : EC} (hE : G.2.2.2 = E) (hk64 : ∀ (l3 : Int32) (g : MT) (h : CT), RM X g → k64 l3 g h = some (r0, g0, h0) → J X g h 64 [(0, va_rf (some this)), (3, .int l3)] []) (l3 : Int32) (s0 : Nat) (s1 : Int32) (g : MT) (h : CT) (M : RM X g) (hf : pX6_parse_b110 E this p1 p2 k64 l3 s0 s1 g h = some (r0, g0, h0)) : J X g h 110 [(0, va_rf (some this)), (3, .int l3)] [.int s1, va_rf (some s0)] := by
  unfold pX6_parse_b110 at hf
  replace hf := tg_i hf
  obtain ⟨t1, hf⟩ := hf
  refine J_putI Z.1 dX6_parse_110 fl_X6_15 (fun q => by cases q) t1 rfl rfl (congrArg Value.int (hI_s _ _ _ _)) ?_
  refine J_th (fun h2 eh2 => ?_)
  replace hf := lt_i hf h2 eh2
  refine J_iinc Z.1 (v := 1) (lv2 := [(3, .int (l3 + 1)), (0, va_rf (some this))]) 1 dX6_parse_113 rfl (by decide) (yL Z (by decide)) rfl ?_
  obtain ⟨x3, ex3⟩ : ∃ z, z = (l3 + 1) := ⟨_, rfl⟩
  replace hf := lt_i hf x3 ex3
  rw [← ex3]
  refine J_goto Z.1 64 dX6_parse_116 (by decide) ?_
  refine J_lv [1, 0] rfl ?_
  exact hk64 _ _ _ M hf
def pX6_parse_b64 (E : EC) (this : Nat) (p1 : Nat) (p2 : Int32) (k64 : Int32 → MT → CT → Option ((Option Nat) × MT × CT)) (l3 : Int32) (g : MT) (h : CT) : Option ((Option Nat) × MT × CT) := tg g this 5 (if (hI h this 3) < l3 then pX6_parse_b119 E this p1 p2  g h else if (hI h this 0) = 0 then bd2 (pX6_nextToken g h this) fun x6 h4 => (if x6 = 0 then pX6_parse_b119 E this p1 p2  g h4 else bd3 (pX6_tokenFault E g h4 this) fun x12 g8 h9 => (gq (fun z => z.2.1) g8 (tg g8 this 5 (lt (sI h9 this 0 x12) fun h15 => (if (hI h15 this 0) = 0 then pX6_parse_b110 E this p1 p2 k64 l3 this (-1) g8 h15 else pX6_parse_b110 E this p1 p2 k64 l3 this (hI h15 this 4) g8 h15))))) else pX6_parse_b119 E this p1 p2  g h)
set_option maxRecDepth 10000 in
set_option maxHeartbeats 4000000 in
theorem pX6_parse_b64_ok {X : Cx} {G : Gx} {dk : Nat} {g0 : MT} {r0 : Option Nat} {h0 : CT} {this : Nat} {p1 : Nat} {p2 : Int32} {k64 : Int32 → MT → CT → Option ((Option Nat) × MT × CT)} (Z : Zy X G cX6_parse RX6 4 dk (some (.object "VectorPipes$Program")) (some (va_rf r0)) "parse" g0 h0) (hK : 8 ≤ dk) {E : EC} (hE : G.2.2.2 = E) (hk64 : ∀ (l3 : Int32) (g : MT) (h : CT), RM X g → k64 l3 g h = some (r0, g0, h0) → J X g h 64 [(0, va_rf (some this)), (3, .int l3)] []) (l3 : Int32) (g : MT) (h : CT) (M : RM X g) (hf : pX6_parse_b64 E this p1 p2 k64 l3 g h = some (r0, g0, h0)) : J X g h 64 [(0, va_rf (some this)), (3, .int l3)] [] := by
  unfold pX6_parse_b64 at hf
  refine J_iload_n Z.1 1 dX6_parse_64 rfl rfl ?_
  refine J_aload_n Z.1 0 dX6_parse_65 rfl rfl ?_
  replace hf := tg_i hf
  obtain ⟨t1, hf⟩ := hf
  refine J_get (v := .int (hI h this 3)) Z.1 dX6_parse_66 fl_X6_34 t1 rfl ?_
  refine J_icmp_gt Z.1 119 dX6_parse_69 (by decide) (fun c2 => ?_) (fun c2 => ?_)
  · rw [if_pos c2] at hf
    refine J_lv [0] rfl ?_
    exact pX6_parse_b119_ok Z hK hE  _ _ M hf
  · rw [if_neg c2] at hf
    refine J_aload_n Z.1 0 dX6_parse_72 rfl rfl ?_
    refine J_get (v := .int (hI h this 0)) Z.1 dX6_parse_73 fl_X6_9 t1 rfl ?_
    refine J_if_ne Z.1 119 dX6_parse_76 (by decide) (fun c3 => ?_) (fun c3 => ?_)
    · rw [if_neg c3] at hf
      refine J_lv [0] rfl ?_
      exact pX6_parse_b119_ok Z hK hE  _ _ M hf
    · rw [if_pos c3] at hf
      refine J_aload_n Z.1 0 dX6_parse_79 rfl rfl ?_
      replace hf := bd2_i hf
      obtain ⟨x6, h4, q5, hf⟩ := hf
      refine J_callV (ci := 4) (as := []) (rest := []) (sy := [.int x6]) Z.1 dX6_parse_80 cw_X6_57 (pX6_nextToken_ok G (dk - 1) (by omega) q5) rfl rfl t1 (yG Z) rfl (by decide) (yF Z (by omega)) (yO Z (by omega) (by decide)) (zM _) M M rfl rfl ?_
      refine J_if_eq Z.1 119 dX6_parse_83 (by decide) (fun c7 => ?_) (fun c7 => ?_)
      · rw [if_pos c7] at hf
        refine J_lv [0] rfl ?_
        exact pX6_parse_b119_ok Z hK hE  _ _ M hf
      · rw [if_neg c7] at hf
        refine J_aload_n Z.1 0 dX6_parse_86 rfl rfl ?_
        refine J_aload_n Z.1 0 dX6_parse_87 rfl rfl ?_
        replace hf := bd3_i hf
        obtain ⟨x12, g8, h9, q10, hf⟩ := hf
        replace hf := gq_i hf
        obtain ⟨n11, hf⟩ := hf
        have M13o := pX6_tokenFault_mono q10
        have M13 := rmC Z M M13o n11
        refine J_callV (ci := 4) (as := []) (rest := [va_rf (some this)]) (sy := [.int x12, va_rf (some this)]) Z.1 dX6_parse_88 cw_X6_61 (pX6_tokenFault_ok G (dk - 1) (by omega) hE q10) rfl rfl t1 (yG Z) rfl (by simp [cat_i, cat_l, cat_d, cat_rf]) (yF Z (by omega)) (yO Z (by omega) (by decide)) M13o M M13 rfl rfl ?_
        replace hf := tg_i hf
        obtain ⟨t14, hf⟩ := hf
        refine J_putI Z.1 dX6_parse_91 fl_X6_9 (fun q => by cases q) t14 rfl rfl (congrArg Value.int (hI_s _ _ _ _)) ?_
        refine J_th (fun h15 eh15 => ?_)
        replace hf := lt_i hf h15 eh15
        refine J_aload_n Z.1 0 dX6_parse_94 rfl rfl ?_
        refine J_aload_n Z.1 0 dX6_parse_95 rfl rfl ?_
        refine J_get (v := .int (hI h15 this 0)) Z.1 dX6_parse_96 fl_X6_9 t14 rfl ?_
        refine J_if_ne Z.1 106 dX6_parse_99 (by decide) (fun c16 => ?_) (fun c16 => ?_)
        · rw [if_neg c16] at hf
          refine J_aload_n Z.1 0 dX6_parse_106 rfl rfl ?_
          refine J_get (v := .int (hI h15 this 4)) Z.1 dX6_parse_107 fl_X6_65 t14 rfl ?_
          exact pX6_parse_b110_ok Z hK hE hk64 _ _ _ _ _ M13 hf
        · rw [if_pos c16] at hf
          refine J_iconst Z.1 (v := (-1)) (by decide) dX6_parse_102 ?_
          refine J_goto Z.1 110 dX6_parse_103 (by decide) ?_
          exact pX6_parse_b110_ok Z hK hE hk64 _ _ _ _ _ M13 hf
def pX6_parse_l64 (E : EC) (this : Nat) (p1 : Nat) (p2 : Int32) : Nat → Int32 → MT → CT → Option ((Option Nat) × MT × CT)
  | 0, _, _, _ => none
  | n + 1, l3, g, h => pX6_parse_b64 E this p1 p2 (pX6_parse_l64 E this p1 p2 n) l3 g h
theorem pX6_parse_l64_ok {X : Cx} {G : Gx} {dk : Nat} {g0 : MT} {r0 : Option Nat} {h0 : CT} {this : Nat} {p1 : Nat} {p2 : Int32} (Z : Zy X G cX6_parse RX6 4 dk (some (.object "VectorPipes$Program")) (some (va_rf r0)) "parse" g0 h0) (hK : 8 ≤ dk) {E : EC} (hE : G.2.2.2 = E) : ∀ (n : Nat) (l3 : Int32) (g : MT) (h : CT), RM X g → pX6_parse_l64 E this p1 p2 n l3 g h = some (r0, g0, h0) → J X g h 64 [(0, va_rf (some this)), (3, .int l3)] [] := by
  intro n
  induction n with
  | zero => intro l3 g h M hf; cases hf
  | succ n ih => intro l3 g h M hf; exact pX6_parse_b64_ok Z hK hE ih l3 g h M hf
def pX6_parse (E : EC) (g : MT) (h : CT) (this : Nat) (p1 : Nat) (p2 : Int32) : Option ((Option Nat) × MT × CT) := gq (fun z => z.2.1) g (tg g this 5 (lt (sR h this 2 (some p1)) fun h2 => (tg g p1 23 (lt (sI h2 this 3 (pJ9_min_7cf53 p2 (Int32.ofNat (gL g p1)))) fun h4 => (lt (sI h4 this 5 0) fun h5 => (gq (fun z => z.2.1) (gA g 6 2) (lt (gA g 6 2) fun g6 => (lt (hZ h5 (gN g)) fun h7 => (lt (gN g) fun a8 => (tg g6 a8 6 (bd2 (pX7_init g6 h7 a8) fun g12 h13 => (gq (fun z => z.2.1) g12 (tg g12 this 5 (lt (sR h13 this 7 (some a8)) fun h18 => (lt (sR h18 this 8 none) fun h19 => (kR (E.1 50) fun a20 => (lt (sR h19 this 9 (some a20)) fun h21 => (lt (sI h21 this 10 0) fun h22 => (lt (sR h22 this 11 none) fun h23 => (lt (sI h23 this 0 0) fun h24 => (lt (sI h24 this 1 (-1)) fun h25 => (pX6_parse_l64 E this p1 p2  FUEL 0 g12 h25))))))))))))))))))))))
theorem pX6_parse_mono {E : EC} {g g0 : MT} {h h0 : CT} {this : Nat} {p1 : Nat} {p2 : Int32} {r0 : Option Nat} (hf : pX6_parse E g h this p1 p2 = some (r0, g0, h0)) : gN g ≤ gN g0 ∧ gU g ≤ gU g0 := by
  unfold pX6_parse at hf
  exact (gq_i hf).1
set_option maxRecDepth 10000 in
set_option maxHeartbeats 4000000 in
theorem pX6_parse_ok (G : Gx) (dk : Nat) (hK : 8 ≤ dk) {E : EC} (hE : G.2.2.2 = E) {g g0 : MT} {h h0 : CT} {this : Nat} {p1 : Nat} {p2 : Int32} {r0 : Option Nat} (hf : pX6_parse E g h this p1 p2 = some (r0, g0, h0)) : Ctr G dk yX6_parse cX6_parse 4 (some (.object "VectorPipes$Program")) [va_rf (some this), va_rf (some p1), .int p2] g h (some (va_rf r0)) g0 h0 := by
  unfold pX6_parse at hf
  replace hf := gq_i hf
  obtain ⟨hm, hf⟩ := hf
  refine Ctr.ofY (lv := [(0, va_rf (some this)), (1, va_rf (some p1)), (2, .int p2)]) (by decide +kernel) (by simp [cat_i, cat_l, cat_d, cat_rf]) rfl hm fun X Z M => ?_
  refine J_aload_n Z.1 0 dX6_parse_0 rfl rfl ?_
  refine J_aload_n Z.1 1 dX6_parse_1 rfl rfl ?_
  replace hf := tg_i hf
  obtain ⟨t1, hf⟩ := hf
  refine J_putR Z.1 dX6_parse_2 fl_X6_18 (fun q => by cases q) t1 (Or.inr ⟨_, rfl⟩) ?_
  refine J_th (fun h2 eh2 => ?_)
  replace hf := lt_i hf h2 eh2
  refine J_aload_n Z.1 0 dX6_parse_5 rfl rfl ?_
  refine J_iload_n Z.1 2 dX6_parse_6 rfl rfl ?_
  refine J_aload_n Z.1 1 dX6_parse_7 rfl rfl ?_
  replace hf := tg_i hf
  obtain ⟨t3, hf⟩ := hf
  refine J_alen (t := 3) Z.1 dX6_parse_8 t3 rfl ?_
  refine J_callS (as := [.int p2, .int (Int32.ofNat (gL g p1))]) (rest := [va_rf (some this)]) (sy := [.int (pJ9_min_7cf53 p2 (Int32.ofNat (gL g p1))), va_rf (some this)]) Z.1 dX6_parse_9 cw_X6_28 (pJ9_min_7cf53_ok G (dk - 1) (by omega) g h2 p2 (Int32.ofNat (gL g p1))) (yG Z) rfl (by simp [cat_i, cat_l, cat_d, cat_rf]) (yF Z (by omega)) (yO Z (by omega) (by decide)) (zM _) M M rfl rfl ?_
  refine J_putI Z.1 dX6_parse_12 fl_X6_34 (fun q => by cases q) t1 rfl rfl (congrArg Value.int (hI_s _ _ _ _)) ?_
  refine J_th (fun h4 eh4 => ?_)
  replace hf := lt_i hf h4 eh4
  refine J_aload_n Z.1 0 dX6_parse_15 rfl rfl ?_
  refine J_iconst Z.1 (v := 0) (by decide) dX6_parse_16 ?_
  refine J_putI Z.1 dX6_parse_17 fl_X6_37 (fun q => by cases q) t1 rfl rfl (congrArg Value.int (hI_s _ _ _ _)) ?_
  refine J_th (fun h5 eh5 => ?_)
  replace hf := lt_i hf h5 eh5
  refine J_aload_n Z.1 0 dX6_parse_20 rfl rfl ?_
  replace hf := gq_i hf
  obtain ⟨n9, hf⟩ := hf
  have M10 := rmA Z M n9
  refine J_new (ci := 5) (r := (RX7, TX7, 2)) Z.1 dX6_parse_21 rfl q_651 q_268 q_143 M M10 ?_
  refine J_tg (fun g6 eg6 => ?_)
  rw [← eg6] at M10
  replace hf := lt_i hf g6 eg6
  refine J_th (fun h7 eh7 => ?_)
  replace hf := lt_i hf h7 eh7
  refine J_ta (fun a8 ea8 => ?_)
  replace hf := lt_i hf a8 ea8
  refine J_dup Z.1 dX6_parse_24 rfl ?_
  replace hf := tg_i hf
  obtain ⟨t11, hf⟩ := hf
  replace hf := bd2_i hf
  obtain ⟨g12, h13, q14, hf⟩ := hf
  replace hf := gq_i hf
  obtain ⟨n15, hf⟩ := hf
  have M16o := pX7_init_mono q14
  have M16 := rmC Z M10 M16o n15
  refine J_callI (as := []) (rest := [va_rf (some a8), va_rf (some this)]) (sy := [va_rf (some a8), va_rf (some this)]) Z.1 dX6_parse_25 cw_X6_42 (pX7_init_ok G (dk - 1) (by omega) q14) (yG Z) rfl (by simp [cat_i, cat_l, cat_d, cat_rf]) (yF Z (by omega)) (yO Z (by omega) (by decide)) M16o M10 M16 rfl rfl ?_
  replace hf := tg_i hf
  obtain ⟨t17, hf⟩ := hf
  refine J_putR Z.1 dX6_parse_28 fl_X6_43 (fun q => by cases q) t17 (Or.inl ⟨_, rfl⟩) ?_
  refine J_th (fun h18 eh18 => ?_)
  replace hf := lt_i hf h18 eh18
  refine J_aload_n Z.1 0 dX6_parse_31 rfl rfl ?_
  refine J_null Z.1 dX6_parse_32 ?_
  refine J_putR Z.1 dX6_parse_33 fl_X6_47 (fun q => by cases q) t17 (Or.inl ⟨_, rfl⟩) ?_
  refine J_th (fun h19 eh19 => ?_)
  replace hf := lt_i hf h19 eh19
  refine J_aload_n Z.1 0 dX6_parse_36 rfl rfl ?_
  replace hf := kR_i hf
  obtain ⟨a20, ea20, hf⟩ := hf
  refine J_ldcS (i := 0) Z.1 dX6_parse_37 rfl rfl rfl (yEv Z hE ea20) ?_
  refine J_putR Z.1 dX6_parse_39 fl_X6_24 (fun q => by cases q) t17 (Or.inl ⟨_, rfl⟩) ?_
  refine J_th (fun h21 eh21 => ?_)
  replace hf := lt_i hf h21 eh21
  refine J_aload_n Z.1 0 dX6_parse_42 rfl rfl ?_
  refine J_iconst Z.1 (v := 0) (by decide) dX6_parse_43 ?_
  refine J_putI Z.1 dX6_parse_44 fl_X6_51 (fun q => by cases q) t17 rfl rfl (congrArg Value.int (hI_s _ _ _ _)) ?_
  refine J_th (fun h22 eh22 => ?_)
  replace hf := lt_i hf h22 eh22
  refine J_aload_n Z.1 0 dX6_parse_47 rfl rfl ?_
  refine J_null Z.1 dX6_parse_48 ?_
  refine J_putR Z.1 dX6_parse_49 fl_X6_54 (fun q => by cases q) t17 (Or.inl ⟨_, rfl⟩) ?_
  refine J_th (fun h23 eh23 => ?_)
  replace hf := lt_i hf h23 eh23
  refine J_aload_n Z.1 0 dX6_parse_52 rfl rfl ?_
  refine J_iconst Z.1 (v := 0) (by decide) dX6_parse_53 ?_
  refine J_putI Z.1 dX6_parse_54 fl_X6_9 (fun q => by cases q) t17 rfl rfl (congrArg Value.int (hI_s _ _ _ _)) ?_
  refine J_th (fun h24 eh24 => ?_)
  replace hf := lt_i hf h24 eh24
  refine J_aload_n Z.1 0 dX6_parse_57 rfl rfl ?_
  refine J_iconst Z.1 (v := (-1)) (by decide) dX6_parse_58 ?_
  refine J_putI Z.1 dX6_parse_59 fl_X6_15 (fun q => by cases q) t17 rfl rfl (congrArg Value.int (hI_s _ _ _ _)) ?_
  refine J_th (fun h25 eh25 => ?_)
  replace hf := lt_i hf h25 eh25
  refine J_iconst Z.1 (v := 0) (by decide) dX6_parse_62 ?_
  refine J_istore_n Z.1 (lv2 := [(3, .int 0), (0, va_rf (some this)), (1, va_rf (some p1)), (2, .int p2)]) dX6_parse_63 rfl (yL Z (by decide)) rfl ?_
  refine J_lv [1, 0] rfl ?_
  exact pX6_parse_l64_ok Z hK hE  FUEL _ _ _ M16 hf
theorem dX12_program_0 : decode cX12_program 0 = .ok (.iload_n 1, 1) := by decide +kernel
theorem dX12_program_1 : decode cX12_program 1 = .ok (.iconst 0, 1) := by decide +kernel
theorem dX12_program_2 : decode cX12_program 2 = .ok (.aload_n 0, 1) := by decide +kernel
theorem dX12_program_3 : decode cX12_program 3 = .ok (.getfield 167, 3) := by decide +kernel
theorem dX12_program_6 : decode cX12_program 6 = .ok (.invokestatic 109, 3) := by decide +kernel
theorem dX12_program_9 : decode cX12_program 9 = .ok (.ifCond .ne 9, 3) := by decide +kernel
theorem dX12_program_12 : decode cX12_program 12 = .ok (.aload_n 0, 1) := by decide +kernel
theorem dX12_program_13 : decode cX12_program 13 = .ok (.iconst 5, 1) := by decide +kernel
theorem dX12_program_14 : decode cX12_program 14 = .ok (.invokevirtual 143, 3) := by decide +kernel
theorem dX12_program_17 : decode cX12_program 17 = .ok (.ireturn, 1) := by decide +kernel
theorem dX12_program_18 : decode cX12_program 18 = .ok (.aload_n 0, 1) := by decide +kernel
theorem dX12_program_19 : decode cX12_program 19 = .ok (.getfield 23, 3) := by decide +kernel
theorem dX12_program_22 : decode cX12_program 22 = .ok (.aload_n 0, 1) := by decide +kernel
theorem dX12_program_23 : decode cX12_program 23 = .ok (.getfield 16, 3) := by decide +kernel
theorem dX12_program_26 : decode cX12_program 26 = .ok (.iload_n 1, 1) := by decide +kernel
theorem dX12_program_27 : decode cX12_program 27 = .ok (.invokevirtual 174, 3) := by decide +kernel
theorem dX12_program_30 : decode cX12_program 30 = .ok (.astore_n 2, 1) := by decide +kernel
theorem dX12_program_31 : decode cX12_program 31 = .ok (.aload_n 0, 1) := by decide +kernel
theorem dX12_program_32 : decode cX12_program 32 = .ok (.iconst 0, 1) := by decide +kernel
theorem dX12_program_33 : decode cX12_program 33 = .ok (.putfield 167, 3) := by decide +kernel
theorem dX12_program_36 : decode cX12_program 36 = .ok (.aload_n 2, 1) := by decide +kernel
theorem dX12_program_37 : decode cX12_program 37 = .ok (.ifnonnull 10, 3) := by decide +kernel
theorem dX12_program_40 : decode cX12_program 40 = .ok (.aload_n 0, 1) := by decide +kernel
theorem dX12_program_41 : decode cX12_program 41 = .ok (.bipush 10, 2) := by decide +kernel
theorem dX12_program_43 : decode cX12_program 43 = .ok (.invokevirtual 143, 3) := by decide +kernel
theorem dX12_program_46 : decode cX12_program 46 = .ok (.ireturn, 1) := by decide +kernel
theorem dX12_program_47 : decode cX12_program 47 = .ok (.aload_n 0, 1) := by decide +kernel
theorem dX12_program_48 : decode cX12_program 48 = .ok (.getfield 30, 3) := by decide +kernel
theorem dX12_program_51 : decode cX12_program 51 = .ok (.aload_n 2, 1) := by decide +kernel
theorem dX12_program_52 : decode cX12_program 52 = .ok (.putfield 178, 3) := by decide +kernel
theorem dX12_program_55 : decode cX12_program 55 = .ok (.aload_n 0, 1) := by decide +kernel
theorem dX12_program_56 : decode cX12_program 56 = .ok (.iconst 0, 1) := by decide +kernel
theorem dX12_program_57 : decode cX12_program 57 = .ok (.putfield 181, 3) := by decide +kernel
theorem dX12_program_60 : decode cX12_program 60 = .ok (.aload_n 0, 1) := by decide +kernel
theorem dX12_program_61 : decode cX12_program 61 = .ok (.aload_n 2, 1) := by decide +kernel
theorem dX12_program_62 : decode cX12_program 62 = .ok (.getfield 184, 3) := by decide +kernel
theorem dX12_program_65 : decode cX12_program 65 = .ok (.invokevirtual 105, 3) := by decide +kernel
theorem dX12_program_68 : decode cX12_program 68 = .ok (.ireturn, 1) := by decide +kernel
def pX12_program (E : EC) (g : MT) (h : CT) (this : Nat) (p1 : Int32) : Option ((Int32) × MT × CT) := gq (fun z => z.2.1) g (tg g this 11 (if (pX12_within p1 0 (hI h this 2)) = 0 then bd2 (pX12_refuse g h this 5) fun x28 h26 => (some (x28, g, h26)) else lt (hR h this 3) fun r3 => (lt (hR h this 1) fun r4 => (nn r3 fun a3 => (tg g a3 5 (nn r4 fun a4 => (bd3 (pX6_parse E g h a3 a4 p1) fun r10 g6 h7 => (gq (fun z => z.2.1) g6 (tg g6 this 11 (lt (sI h7 this 2 0) fun h13 => (if r10 = none then bd2 (pX12_refuse g6 h13 this 10) fun x25 h23 => (some (x25, g6, h23)) else lt (hR h13 this 4) fun r15 => (nn r15 fun a15 => (tg g6 a15 3 (lt (sR h13 a15 8 r10) fun h17 => (lt (sI h17 this 10 0) fun h18 => (nn r10 fun a10 => (tg g6 a10 6 (bd2 (pX12_answer g6 h18 this (hI h18 a10 1)) fun x22 h20 => (some (x22, g6, h20))))))))))))))))))))
theorem pX12_program_mono {E : EC} {g g0 : MT} {h h0 : CT} {this : Nat} {p1 : Int32} {r0 : Int32} (hf : pX12_program E g h this p1 = some (r0, g0, h0)) : gN g ≤ gN g0 ∧ gU g ≤ gU g0 := by
  unfold pX12_program at hf
  exact (gq_i hf).1
set_option maxRecDepth 10000 in
set_option maxHeartbeats 4000000 in
theorem pX12_program_ok (G : Gx) (dk : Nat) (hK : 9 ≤ dk) {E : EC} (hE : G.2.2.2 = E) {g g0 : MT} {h h0 : CT} {this : Nat} {p1 : Int32} {r0 : Int32} (hf : pX12_program E g h this p1 = some (r0, g0, h0)) : Ctr G dk yX12_program cX12_program 3 (some .int) [va_rf (some this), .int p1] g h (some (.int r0)) g0 h0 := by
  unfold pX12_program at hf
  replace hf := gq_i hf
  obtain ⟨hm, hf⟩ := hf
  refine Ctr.ofY (lv := [(0, va_rf (some this)), (1, .int p1)]) (by decide +kernel) (by simp [cat_i, cat_l, cat_d, cat_rf]) rfl hm fun X Z M => ?_
  refine J_iload_n Z.1 1 dX12_program_0 rfl rfl ?_
  refine J_iconst Z.1 (v := 0) (by decide) dX12_program_1 ?_
  refine J_aload_n Z.1 0 dX12_program_2 rfl rfl ?_
  replace hf := tg_i hf
  obtain ⟨t1, hf⟩ := hf
  refine J_get (v := .int (hI h this 2)) Z.1 dX12_program_3 fl_X12_167 t1 rfl ?_
  refine J_callS (as := [.int p1, .int 0, .int (hI h this 2)]) (rest := []) (sy := [.int (pX12_within p1 0 (hI h this 2))]) Z.1 dX12_program_6 cw_X12_109 (pX12_within_ok G (dk - 1) (by omega) g h p1 0 (hI h this 2)) (yG Z) rfl (by decide) (yF Z (by omega)) (yO Z (by omega) (by decide)) (zM _) M M rfl rfl ?_
  refine J_if_ne Z.1 18 dX12_program_9 (by decide) (fun c2 => ?_) (fun c2 => ?_)
  · rw [if_neg c2] at hf
    refine J_aload_n Z.1 0 dX12_program_18 rfl rfl ?_
    refine J_get (v := va_rf (hR h this 3)) Z.1 dX12_program_19 fl_X12_23 t1 rfl ?_
    refine J_tr (fun r3 er3 => ?_)
    replace hf := lt_i hf r3 er3
    refine J_aload_n Z.1 0 dX12_program_22 rfl rfl ?_
    refine J_get (v := va_rf (hR h this 1)) Z.1 dX12_program_23 fl_X12_16 t1 rfl ?_
    refine J_tr (fun r4 er4 => ?_)
    replace hf := lt_i hf r4 er4
    refine J_iload_n Z.1 1 dX12_program_26 rfl rfl ?_
    replace hf := nn_i hf
    obtain ⟨a3, rfl, hf⟩ := hf
    replace hf := tg_i hf
    obtain ⟨t5, hf⟩ := hf
    replace hf := nn_i hf
    obtain ⟨a4, rfl, hf⟩ := hf
    replace hf := bd3_i hf
    obtain ⟨r10, g6, h7, q8, hf⟩ := hf
    replace hf := gq_i hf
    obtain ⟨n9, hf⟩ := hf
    have M11o := pX6_parse_mono q8
    have M11 := rmC Z M M11o n9
    refine J_callV (ci := 4) (as := [va_rf (some a4), .int p1]) (rest := []) (sy := [va_rf r10]) Z.1 dX12_program_27 cw_X12_174 (pX6_parse_ok G (dk - 1) (by omega) hE q8) rfl rfl t5 (yG Z) rfl (by decide) (yF Z (by omega)) (yO Z (by omega) (by decide)) M11o M M11 rfl rfl ?_
    refine J_astore_n Z.1 (lv2 := [(2, va_rf r10), (0, va_rf (some this)), (1, .int p1)]) dX12_program_30 rfl (yL Z (by decide)) rfl ?_
    refine J_aload_n Z.1 1 dX12_program_31 rfl rfl ?_
    refine J_iconst Z.1 (v := 0) (by decide) dX12_program_32 ?_
    replace hf := tg_i hf
    obtain ⟨t12, hf⟩ := hf
    refine J_putI Z.1 dX12_program_33 fl_X12_167 (fun q => by cases q) t12 rfl rfl (congrArg Value.int (hI_s _ _ _ _)) ?_
    refine J_th (fun h13 eh13 => ?_)
    replace hf := lt_i hf h13 eh13
    refine J_aload_n Z.1 0 dX12_program_36 rfl rfl ?_
    refine J_ifnonnull Z.1 47 dX12_program_37 (by decide) (fun c14 => ?_) (fun c14 => ?_)
    · rw [if_neg c14] at hf
      refine J_aload_n Z.1 1 dX12_program_47 rfl rfl ?_
      refine J_get (v := va_rf (hR h13 this 4)) Z.1 dX12_program_48 fl_X12_30 t12 rfl ?_
      refine J_tr (fun r15 er15 => ?_)
      replace hf := lt_i hf r15 er15
      refine J_aload_n Z.1 0 dX12_program_51 rfl rfl ?_
      replace hf := nn_i hf
      obtain ⟨a15, rfl, hf⟩ := hf
      replace hf := tg_i hf
      obtain ⟨t16, hf⟩ := hf
      refine J_putR Z.1 dX12_program_52 fl_X12_178 (fun q => by cases q) t16 (Or.inl ⟨_, rfl⟩) ?_
      refine J_th (fun h17 eh17 => ?_)
      replace hf := lt_i hf h17 eh17
      refine J_aload_n Z.1 1 dX12_program_55 rfl rfl ?_
      refine J_iconst Z.1 (v := 0) (by decide) dX12_program_56 ?_
      refine J_putI Z.1 dX12_program_57 fl_X12_181 (fun q => by cases q) t12 (z_n (Or.inl rfl)) (z_f (Or.inl rfl)) (congrArg Value.int (hI_s _ _ _ _)) ?_
      refine J_th (fun h18 eh18 => ?_)
      replace hf := lt_i hf h18 eh18
      refine J_aload_n Z.1 1 dX12_program_60 rfl rfl ?_
      refine J_aload_n Z.1 0 dX12_program_61 rfl rfl ?_
      replace hf := nn_i hf
      obtain ⟨a10, rfl, hf⟩ := hf
      replace hf := tg_i hf
      obtain ⟨t19, hf⟩ := hf
      refine J_get (v := .int (hI h18 a10 1)) Z.1 dX12_program_62 fl_X12_184 t19 rfl ?_
      replace hf := bd2_i hf
      obtain ⟨x22, h20, q21, hf⟩ := hf
      refine J_callV (ci := 10) (as := [.int (hI h18 a10 1)]) (rest := []) (sy := [.int x22]) Z.1 dX12_program_65 cw_X12_105 (pX12_answer_ok G (dk - 1) (by omega) q21) rfl rfl t12 (yG Z) rfl (by decide) (yF Z (by omega)) (yO Z (by omega) (by decide)) (zM _) M11 M11 rfl rfl ?_
      cases hf
      exact J_iret Z.1 Z.2.2.2.2.1 dX12_program_68
    · rw [if_pos c14] at hf
      refine J_aload_n Z.1 1 dX12_program_40 rfl rfl ?_
      refine J_bipush Z.1 (v := 10) (by decide) dX12_program_41 ?_
      replace hf := bd2_i hf
      obtain ⟨x25, h23, q24, hf⟩ := hf
      refine J_callV (ci := 10) (as := [.int 10]) (rest := []) (sy := [.int x25]) Z.1 dX12_program_43 cw_X12_143 (pX12_refuse_ok G (dk - 1) (by omega) q24) rfl rfl t12 (yG Z) rfl (by decide) (yF Z (by omega)) (yO Z (by omega) (by decide)) (zM _) M11 M11 rfl rfl ?_
      cases hf
      exact J_iret Z.1 Z.2.2.2.2.1 dX12_program_46
  · rw [if_pos c2] at hf
    refine J_aload_n Z.1 0 dX12_program_12 rfl rfl ?_
    refine J_iconst Z.1 (v := 5) (by decide) dX12_program_13 ?_
    replace hf := bd2_i hf
    obtain ⟨x28, h26, q27, hf⟩ := hf
    refine J_callV (ci := 10) (as := [.int 5]) (rest := []) (sy := [.int x28]) Z.1 dX12_program_14 cw_X12_143 (pX12_refuse_ok G (dk - 1) (by omega) q27) rfl rfl t1 (yG Z) rfl (by decide) (yF Z (by omega)) (yO Z (by omega) (by decide)) (zM _) M M rfl rfl ?_
    cases hf
    exact J_iret Z.1 Z.2.2.2.2.1 dX12_program_17
theorem dX12_swapGain_0 : decode cX12_swapGain 0 = .ok (.aload_n 0, 1) := by decide +kernel
theorem dX12_swapGain_1 : decode cX12_swapGain 1 = .ok (.iload_n 1, 1) := by decide +kernel
theorem dX12_swapGain_2 : decode cX12_swapGain 2 = .ok (.invokevirtual 311, 3) := by decide +kernel
theorem dX12_swapGain_5 : decode cX12_swapGain 5 = .ok (.ifCond .eq 19, 3) := by decide +kernel
theorem dX12_swapGain_8 : decode cX12_swapGain 8 = .ok (.iload_n 1, 1) := by decide +kernel
theorem dX12_swapGain_9 : decode cX12_swapGain 9 = .ok (.aload_n 0, 1) := by decide +kernel
theorem dX12_swapGain_10 : decode cX12_swapGain 10 = .ok (.getfield 30, 3) := by decide +kernel
theorem dX12_swapGain_13 : decode cX12_swapGain 13 = .ok (.getfield 178, 3) := by decide +kernel
theorem dX12_swapGain_16 : decode cX12_swapGain 16 = .ok (.getfield 184, 3) := by decide +kernel
theorem dX12_swapGain_19 : decode cX12_swapGain 19 = .ok (.iconst 1, 1) := by decide +kernel
theorem dX12_swapGain_20 : decode cX12_swapGain 20 = .ok (.isub, 1) := by decide +kernel
theorem dX12_swapGain_21 : decode cX12_swapGain 21 = .ok (.if_icmp .lt 9, 3) := by decide +kernel
theorem dX12_swapGain_24 : decode cX12_swapGain 24 = .ok (.aload_n 0, 1) := by decide +kernel
theorem dX12_swapGain_25 : decode cX12_swapGain 25 = .ok (.iconst 2, 1) := by decide +kernel
theorem dX12_swapGain_26 : decode cX12_swapGain 26 = .ok (.invokevirtual 143, 3) := by decide +kernel
theorem dX12_swapGain_29 : decode cX12_swapGain 29 = .ok (.ireturn, 1) := by decide +kernel
theorem dX12_swapGain_30 : decode cX12_swapGain 30 = .ok (.aload_n 0, 1) := by decide +kernel
theorem dX12_swapGain_31 : decode cX12_swapGain 31 = .ok (.getfield 30, 3) := by decide +kernel
theorem dX12_swapGain_34 : decode cX12_swapGain 34 = .ok (.getfield 178, 3) := by decide +kernel
theorem dX12_swapGain_37 : decode cX12_swapGain 37 = .ok (.iload_n 1, 1) := by decide +kernel
theorem dX12_swapGain_38 : decode cX12_swapGain 38 = .ok (.invokevirtual 349, 3) := by decide +kernel
theorem dX12_swapGain_41 : decode cX12_swapGain 41 = .ok (.ifCond .ne 10, 3) := by decide +kernel
theorem dX12_swapGain_44 : decode cX12_swapGain 44 = .ok (.aload_n 0, 1) := by decide +kernel
theorem dX12_swapGain_45 : decode cX12_swapGain 45 = .ok (.bipush 9, 2) := by decide +kernel
theorem dX12_swapGain_47 : decode cX12_swapGain 47 = .ok (.invokevirtual 143, 3) := by decide +kernel
theorem dX12_swapGain_50 : decode cX12_swapGain 50 = .ok (.ireturn, 1) := by decide +kernel
theorem dX12_swapGain_51 : decode cX12_swapGain 51 = .ok (.aload_n 0, 1) := by decide +kernel
theorem dX12_swapGain_52 : decode cX12_swapGain 52 = .ok (.iconst (-1), 1) := by decide +kernel
theorem dX12_swapGain_53 : decode cX12_swapGain 53 = .ok (.invokevirtual 352, 3) := by decide +kernel
theorem dX12_swapGain_56 : decode cX12_swapGain 56 = .ok (.istore_n 2, 1) := by decide +kernel
theorem dX12_swapGain_57 : decode cX12_swapGain 57 = .ok (.iload_n 2, 1) := by decide +kernel
theorem dX12_swapGain_58 : decode cX12_swapGain 58 = .ok (.iconst (-1), 1) := by decide +kernel
theorem dX12_swapGain_59 : decode cX12_swapGain 59 = .ok (.if_icmp .ne 7, 3) := by decide +kernel
theorem dX12_swapGain_62 : decode cX12_swapGain 62 = .ok (.iconst (-1), 1) := by decide +kernel
theorem dX12_swapGain_63 : decode cX12_swapGain 63 = .ok (.goto 8, 3) := by decide +kernel
theorem dX12_swapGain_66 : decode cX12_swapGain 66 = .ok (.aload_n 0, 1) := by decide +kernel
theorem dX12_swapGain_67 : decode cX12_swapGain 67 = .ok (.iload_n 1, 1) := by decide +kernel
theorem dX12_swapGain_68 : decode cX12_swapGain 68 = .ok (.invokevirtual 352, 3) := by decide +kernel
theorem dX12_swapGain_71 : decode cX12_swapGain 71 = .ok (.istore_n 3, 1) := by decide +kernel
theorem dX12_swapGain_72 : decode cX12_swapGain 72 = .ok (.iload_n 3, 1) := by decide +kernel
theorem dX12_swapGain_73 : decode cX12_swapGain 73 = .ok (.iconst (-1), 1) := by decide +kernel
theorem dX12_swapGain_74 : decode cX12_swapGain 74 = .ok (.if_icmp .ne 12, 3) := by decide +kernel
theorem dX12_swapGain_77 : decode cX12_swapGain 77 = .ok (.aload_n 0, 1) := by decide +kernel
theorem dX12_swapGain_78 : decode cX12_swapGain 78 = .ok (.bipush 12, 2) := by decide +kernel
theorem dX12_swapGain_80 : decode cX12_swapGain 80 = .ok (.invokevirtual 143, 3) := by decide +kernel
theorem dX12_swapGain_83 : decode cX12_swapGain 83 = .ok (.goto 10, 3) := by decide +kernel
theorem dX12_swapGain_86 : decode cX12_swapGain 86 = .ok (.aload_n 0, 1) := by decide +kernel
theorem dX12_swapGain_87 : decode cX12_swapGain 87 = .ok (.iload_n 2, 1) := by decide +kernel
theorem dX12_swapGain_88 : decode cX12_swapGain 88 = .ok (.iload_n 3, 1) := by decide +kernel
theorem dX12_swapGain_89 : decode cX12_swapGain 89 = .ok (.isub, 1) := by decide +kernel
theorem dX12_swapGain_90 : decode cX12_swapGain 90 = .ok (.invokevirtual 105, 3) := by decide +kernel
theorem dX12_swapGain_93 : decode cX12_swapGain 93 = .ok (.ireturn, 1) := by decide +kernel
def pX12_swapGain_b24 (E : EC) (g : MT) (this : Nat) (p1 : Int32) (h : CT) : Option ((Int32) × CT) := bd2 (pX12_refuse g h this 2) fun x3 h1 => (some (x3, h1))
set_option maxRecDepth 10000 in
set_option maxHeartbeats 4000000 in
theorem pX12_swapGain_b24_ok {X : Cx} {G : Gx} {dk : Nat} {g : MT} {r0 : Int32} {h0 : CT} {this : Nat} {p1 : Int32} (Z : Zx X G cX12_swapGain RX12 4 dk (some .int) (some (.int r0)) g h0) (hK : 7 ≤ dk) {E : EC} (hE : G.2.2.2 = E) (t0 : gT g this = 11) (h : CT) (hf : pX12_swapGain_b24 E g this p1 h = some (r0, h0)) : J X g h 24 [(0, va_rf (some this))] [] := by
  unfold pX12_swapGain_b24 at hf
  refine J_aload_n Z.1 0 dX12_swapGain_24 rfl rfl ?_
  refine J_iconst Z.1 (v := 2) (by decide) dX12_swapGain_25 ?_
  replace hf := bd2_i hf
  obtain ⟨x3, h1, q2, hf⟩ := hf
  refine J_callV (ci := 10) (as := [.int 2]) (rest := []) (sy := [.int x3]) Z.1 dX12_swapGain_26 cw_X12_143 (pX12_refuse_ok G (dk - 1) (by omega) q2) rfl rfl t0 (zG Z) rfl (by decide) (zF Z (by omega)) (zO Z (by omega) (by decide)) (zM _) Z.2.1 Z.2.1 rfl rfl ?_
  cases hf
  exact J_iret Z.1 Z.2.2.2.2.2 dX12_swapGain_29
def pX12_swapGain_b71 (E : EC) (g : MT) (this : Nat) (p1 : Int32) (l2 : Int32) (s0 : Int32) (h : CT) : Option ((Int32) × CT) := if s0 = (-1) then bd2 (pX12_refuse g h this 12) fun x7 h5 => (some (x7, h5)) else bd2 (pX12_answer g h this (l2 - s0)) fun x4 h2 => (some (x4, h2))
set_option maxRecDepth 10000 in
set_option maxHeartbeats 4000000 in
theorem pX12_swapGain_b71_ok {X : Cx} {G : Gx} {dk : Nat} {g : MT} {r0 : Int32} {h0 : CT} {this : Nat} {p1 : Int32} (Z : Zx X G cX12_swapGain RX12 4 dk (some .int) (some (.int r0)) g h0) (hK : 7 ≤ dk) {E : EC} (hE : G.2.2.2 = E) (t0 : gT g this = 11) (l2 : Int32) (s0 : Int32) (h : CT) (hf : pX12_swapGain_b71 E g this p1 l2 s0 h = some (r0, h0)) : J X g h 71 [(0, va_rf (some this)), (2, .int l2)] [.int s0] := by
  unfold pX12_swapGain_b71 at hf
  refine J_istore_n Z.1 (lv2 := [(3, .int s0), (0, va_rf (some this)), (2, .int l2)]) dX12_swapGain_71 rfl (zL Z (by decide)) rfl ?_
  refine J_iload_n Z.1 0 dX12_swapGain_72 rfl rfl ?_
  refine J_iconst Z.1 (v := (-1)) (by decide) dX12_swapGain_73 ?_
  refine J_icmp_ne Z.1 86 dX12_swapGain_74 (by decide) (fun c1 => ?_) (fun c1 => ?_)
  · rw [if_neg c1] at hf
    refine J_aload_n Z.1 1 dX12_swapGain_86 rfl rfl ?_
    refine J_iload_n Z.1 2 dX12_swapGain_87 rfl rfl ?_
    refine J_iload_n Z.1 0 dX12_swapGain_88 rfl rfl ?_
    refine J_isub Z.1 dX12_swapGain_89 ?_
    replace hf := bd2_i hf
    obtain ⟨x4, h2, q3, hf⟩ := hf
    refine J_callV (ci := 10) (as := [.int (l2 - s0)]) (rest := []) (sy := [.int x4]) Z.1 dX12_swapGain_90 cw_X12_105 (pX12_answer_ok G (dk - 1) (by omega) q3) rfl rfl t0 (zG Z) rfl (by decide) (zF Z (by omega)) (zO Z (by omega) (by decide)) (zM _) Z.2.1 Z.2.1 rfl rfl ?_
    cases hf
    exact J_iret Z.1 Z.2.2.2.2.2 dX12_swapGain_93
  · rw [if_pos c1] at hf
    refine J_aload_n Z.1 1 dX12_swapGain_77 rfl rfl ?_
    refine J_bipush Z.1 (v := 12) (by decide) dX12_swapGain_78 ?_
    replace hf := bd2_i hf
    obtain ⟨x7, h5, q6, hf⟩ := hf
    refine J_callV (ci := 10) (as := [.int 12]) (rest := []) (sy := [.int x7]) Z.1 dX12_swapGain_80 cw_X12_143 (pX12_refuse_ok G (dk - 1) (by omega) q6) rfl rfl t0 (zG Z) rfl (by decide) (zF Z (by omega)) (zO Z (by omega) (by decide)) (zM _) Z.2.1 Z.2.1 rfl rfl ?_
    refine J_goto Z.1 93 dX12_swapGain_83 (by decide) ?_
    cases hf
    exact J_iret Z.1 Z.2.2.2.2.2 dX12_swapGain_93
def pX12_swapGain (E : EC) (g : MT) (h : CT) (this : Nat) (p1 : Int32) : Option ((Int32) × CT) := tg g this 11 (bd (pX12_isInstruction g h this p1) fun x1 => (if x1 = 0 then pX12_swapGain_b24 E g this p1  h else lt (hR h this 4) fun r4 => (nn r4 fun a4 => (tg g a4 3 (lt (hR h a4 8) fun r6 => (nn r6 fun a6 => (tg g a6 6 (if p1 < ((hI h a6 1) - 1) then lt (hR h this 4) fun r9 => (nn r9 fun a9 => (tg g a9 3 (lt (hR h a9 8) fun r11 => (nn r11 fun a11 => (tg g a11 6 (bd (pX7_canSwap E g h a11 p1) fun x13 => (if x13 = 0 then bd2 (pX12_refuse g h this 9) fun x25 h23 => (some (x25, h23)) else bd2 (pX12_trialCycles E g h this (-1)) fun x18 h16 => (if x18 = (-1) then pX12_swapGain_b71 E g this p1  x18 (-1) h16 else bd2 (pX12_trialCycles E g h16 this p1) fun x22 h20 => (pX12_swapGain_b71 E g this p1  x18 x22 h20))))))))) else pX12_swapGain_b24 E g this p1  h))))))))
set_option maxRecDepth 10000 in
set_option maxHeartbeats 4000000 in
theorem pX12_swapGain_ok (G : Gx) (dk : Nat) (hK : 7 ≤ dk) {g : MT} {E : EC} (hE : G.2.2.2 = E) {h h0 : CT} {this : Nat} {p1 : Int32} {r0 : Int32} (hf : pX12_swapGain E g h this p1 = some (r0, h0)) : Ctr G dk yX12_swapGain cX12_swapGain 4 (some .int) [va_rf (some this), .int p1] g h (some (.int r0)) g h0 := by
  refine Ctr.ofZ (lv := [(0, va_rf (some this)), (1, .int p1)]) (by decide +kernel) (by simp [cat_i, cat_l, cat_d, cat_rf]) rfl fun X Z => ?_
  unfold pX12_swapGain at hf
  replace hf := tg_i hf
  obtain ⟨t0, hf⟩ := hf
  refine J_aload_n Z.1 0 dX12_swapGain_0 rfl rfl ?_
  refine J_iload_n Z.1 1 dX12_swapGain_1 rfl rfl ?_
  replace hf := bd_i hf
  obtain ⟨x1, q2, hf⟩ := hf
  refine J_callV (ci := 10) (as := [.int p1]) (rest := []) (sy := [.int x1]) Z.1 dX12_swapGain_2 cw_X12_311 (pX12_isInstruction_ok G (dk - 1) (by omega) q2) rfl rfl t0 (zG Z) rfl (by decide) (zF Z (by omega)) (zO Z (by omega) (by decide)) (zM _) Z.2.1 Z.2.1 rfl rfl ?_
  refine J_if_eq Z.1 24 dX12_swapGain_5 (by decide) (fun c3 => ?_) (fun c3 => ?_)
  · rw [if_pos c3] at hf
    refine J_lv [0] rfl ?_
    exact pX12_swapGain_b24_ok Z hK hE t0  _ hf
  · rw [if_neg c3] at hf
    refine J_iload_n Z.1 1 dX12_swapGain_8 rfl rfl ?_
    refine J_aload_n Z.1 0 dX12_swapGain_9 rfl rfl ?_
    refine J_get (v := va_rf (hR h this 4)) Z.1 dX12_swapGain_10 fl_X12_30 t0 rfl ?_
    refine J_tr (fun r4 er4 => ?_)
    replace hf := lt_i hf r4 er4
    replace hf := nn_i hf
    obtain ⟨a4, rfl, hf⟩ := hf
    replace hf := tg_i hf
    obtain ⟨t5, hf⟩ := hf
    refine J_get (v := va_rf (hR h a4 8)) Z.1 dX12_swapGain_13 fl_X12_178 t5 rfl ?_
    refine J_tr (fun r6 er6 => ?_)
    replace hf := lt_i hf r6 er6
    replace hf := nn_i hf
    obtain ⟨a6, rfl, hf⟩ := hf
    replace hf := tg_i hf
    obtain ⟨t7, hf⟩ := hf
    refine J_get (v := .int (hI h a6 1)) Z.1 dX12_swapGain_16 fl_X12_184 t7 rfl ?_
    refine J_iconst Z.1 (v := 1) (by decide) dX12_swapGain_19 ?_
    refine J_isub Z.1 dX12_swapGain_20 ?_
    refine J_icmp_lt Z.1 30 dX12_swapGain_21 (by decide) (fun c8 => ?_) (fun c8 => ?_)
    · rw [if_pos c8] at hf
      refine J_aload_n Z.1 0 dX12_swapGain_30 rfl rfl ?_
      refine J_get (v := va_rf (hR h this 4)) Z.1 dX12_swapGain_31 fl_X12_30 t0 rfl ?_
      refine J_tr (fun r9 er9 => ?_)
      replace hf := lt_i hf r9 er9
      replace hf := nn_i hf
      obtain ⟨a9, rfl, hf⟩ := hf
      replace hf := tg_i hf
      obtain ⟨t10, hf⟩ := hf
      refine J_get (v := va_rf (hR h a9 8)) Z.1 dX12_swapGain_34 fl_X12_178 t10 rfl ?_
      refine J_tr (fun r11 er11 => ?_)
      replace hf := lt_i hf r11 er11
      refine J_iload_n Z.1 1 dX12_swapGain_37 rfl rfl ?_
      replace hf := nn_i hf
      obtain ⟨a11, rfl, hf⟩ := hf
      replace hf := tg_i hf
      obtain ⟨t12, hf⟩ := hf
      replace hf := bd_i hf
      obtain ⟨x13, q14, hf⟩ := hf
      refine J_callV (ci := 5) (as := [.int p1]) (rest := []) (sy := [.int x13]) Z.1 dX12_swapGain_38 cw_X12_349 (pX7_canSwap_ok G (dk - 1) (by omega) hE q14) rfl rfl t12 (zG Z) rfl (by decide) (zF Z (by omega)) (zO Z (by omega) (by decide)) (zM _) Z.2.1 Z.2.1 rfl rfl ?_
      refine J_if_ne Z.1 51 dX12_swapGain_41 (by decide) (fun c15 => ?_) (fun c15 => ?_)
      · rw [if_neg c15] at hf
        refine J_aload_n Z.1 0 dX12_swapGain_51 rfl rfl ?_
        refine J_iconst Z.1 (v := (-1)) (by decide) dX12_swapGain_52 ?_
        replace hf := bd2_i hf
        obtain ⟨x18, h16, q17, hf⟩ := hf
        refine J_callV (ci := 10) (as := [.int (-1)]) (rest := []) (sy := [.int x18]) Z.1 dX12_swapGain_53 cw_X12_352 (pX12_trialCycles_ok G (dk - 1) (by omega) hE q17) rfl rfl t0 (zG Z) rfl (by decide) (zF Z (by omega)) (zO Z (by omega) (by decide)) (zM _) Z.2.1 Z.2.1 rfl rfl ?_
        refine J_istore_n Z.1 (lv2 := [(2, .int x18), (0, va_rf (some this)), (1, .int p1)]) dX12_swapGain_56 rfl (zL Z (by decide)) rfl ?_
        refine J_iload_n Z.1 0 dX12_swapGain_57 rfl rfl ?_
        refine J_iconst Z.1 (v := (-1)) (by decide) dX12_swapGain_58 ?_
        refine J_icmp_ne Z.1 66 dX12_swapGain_59 (by decide) (fun c19 => ?_) (fun c19 => ?_)
        · rw [if_neg c19] at hf
          refine J_aload_n Z.1 1 dX12_swapGain_66 rfl rfl ?_
          refine J_iload_n Z.1 2 dX12_swapGain_67 rfl rfl ?_
          replace hf := bd2_i hf
          obtain ⟨x22, h20, q21, hf⟩ := hf
          refine J_callV (ci := 10) (as := [.int p1]) (rest := []) (sy := [.int x22]) Z.1 dX12_swapGain_68 cw_X12_352 (pX12_trialCycles_ok G (dk - 1) (by omega) hE q21) rfl rfl t0 (zG Z) rfl (by decide) (zF Z (by omega)) (zO Z (by omega) (by decide)) (zM _) Z.2.1 Z.2.1 rfl rfl ?_
          refine J_lv [1, 0] rfl ?_
          exact pX12_swapGain_b71_ok Z hK hE t0  _ _ _ hf
        · rw [if_pos c19] at hf
          refine J_iconst Z.1 (v := (-1)) (by decide) dX12_swapGain_62 ?_
          refine J_goto Z.1 71 dX12_swapGain_63 (by decide) ?_
          refine J_lv [1, 0] rfl ?_
          exact pX12_swapGain_b71_ok Z hK hE t0  _ _ _ hf
      · rw [if_pos c15] at hf
        refine J_aload_n Z.1 0 dX12_swapGain_44 rfl rfl ?_
        refine J_bipush Z.1 (v := 9) (by decide) dX12_swapGain_45 ?_
        replace hf := bd2_i hf
        obtain ⟨x25, h23, q24, hf⟩ := hf
        refine J_callV (ci := 10) (as := [.int 9]) (rest := []) (sy := [.int x25]) Z.1 dX12_swapGain_47 cw_X12_143 (pX12_refuse_ok G (dk - 1) (by omega) q24) rfl rfl t0 (zG Z) rfl (by decide) (zF Z (by omega)) (zO Z (by omega) (by decide)) (zM _) Z.2.1 Z.2.1 rfl rfl ?_
        cases hf
        exact J_iret Z.1 Z.2.2.2.2.2 dX12_swapGain_50
    · rw [if_neg c8] at hf
      refine J_lv [0] rfl ?_
      exact pX12_swapGain_b24_ok Z hK hE t0  _ hf
theorem dX12_bestSwap_0 : decode cX12_bestSwap 0 = .ok (.iconst (-1), 1) := by decide +kernel
theorem dX12_bestSwap_1 : decode cX12_bestSwap 1 = .ok (.istore_n 1, 1) := by decide +kernel
theorem dX12_bestSwap_2 : decode cX12_bestSwap 2 = .ok (.iconst 0, 1) := by decide +kernel
theorem dX12_bestSwap_3 : decode cX12_bestSwap 3 = .ok (.istore_n 2, 1) := by decide +kernel
theorem dX12_bestSwap_4 : decode cX12_bestSwap 4 = .ok (.aload_n 0, 1) := by decide +kernel
theorem dX12_bestSwap_5 : decode cX12_bestSwap 5 = .ok (.getfield 30, 3) := by decide +kernel
theorem dX12_bestSwap_8 : decode cX12_bestSwap 8 = .ok (.getfield 178, 3) := by decide +kernel
theorem dX12_bestSwap_11 : decode cX12_bestSwap 11 = .ok (.getfield 184, 3) := by decide +kernel
theorem dX12_bestSwap_14 : decode cX12_bestSwap 14 = .ok (.iconst 2, 1) := by decide +kernel
theorem dX12_bestSwap_15 : decode cX12_bestSwap 15 = .ok (.if_icmp .ge 7, 3) := by decide +kernel
theorem dX12_bestSwap_18 : decode cX12_bestSwap 18 = .ok (.iconst (-1), 1) := by decide +kernel
theorem dX12_bestSwap_19 : decode cX12_bestSwap 19 = .ok (.goto 8, 3) := by decide +kernel
theorem dX12_bestSwap_22 : decode cX12_bestSwap 22 = .ok (.aload_n 0, 1) := by decide +kernel
theorem dX12_bestSwap_23 : decode cX12_bestSwap 23 = .ok (.iconst (-1), 1) := by decide +kernel
theorem dX12_bestSwap_24 : decode cX12_bestSwap 24 = .ok (.invokevirtual 352, 3) := by decide +kernel
theorem dX12_bestSwap_27 : decode cX12_bestSwap 27 = .ok (.istore_n 3, 1) := by decide +kernel
theorem dX12_bestSwap_28 : decode cX12_bestSwap 28 = .ok (.iconst 0, 1) := by decide +kernel
theorem dX12_bestSwap_29 : decode cX12_bestSwap 29 = .ok (.istore 4, 2) := by decide +kernel
theorem dX12_bestSwap_31 : decode cX12_bestSwap 31 = .ok (.iload_n 3, 1) := by decide +kernel
theorem dX12_bestSwap_32 : decode cX12_bestSwap 32 = .ok (.iconst (-1), 1) := by decide +kernel
theorem dX12_bestSwap_33 : decode cX12_bestSwap 33 = .ok (.if_icmp .eq 75, 3) := by decide +kernel
theorem dX12_bestSwap_36 : decode cX12_bestSwap 36 = .ok (.iload 4, 2) := by decide +kernel
theorem dX12_bestSwap_38 : decode cX12_bestSwap 38 = .ok (.aload_n 0, 1) := by decide +kernel
theorem dX12_bestSwap_39 : decode cX12_bestSwap 39 = .ok (.getfield 30, 3) := by decide +kernel
theorem dX12_bestSwap_42 : decode cX12_bestSwap 42 = .ok (.getfield 178, 3) := by decide +kernel
theorem dX12_bestSwap_45 : decode cX12_bestSwap 45 = .ok (.getfield 184, 3) := by decide +kernel
theorem dX12_bestSwap_48 : decode cX12_bestSwap 48 = .ok (.iconst 1, 1) := by decide +kernel
theorem dX12_bestSwap_49 : decode cX12_bestSwap 49 = .ok (.isub, 1) := by decide +kernel
theorem dX12_bestSwap_50 : decode cX12_bestSwap 50 = .ok (.if_icmp .ge 58, 3) := by decide +kernel
theorem dX12_bestSwap_53 : decode cX12_bestSwap 53 = .ok (.aload_n 0, 1) := by decide +kernel
theorem dX12_bestSwap_54 : decode cX12_bestSwap 54 = .ok (.getfield 30, 3) := by decide +kernel
theorem dX12_bestSwap_57 : decode cX12_bestSwap 57 = .ok (.getfield 178, 3) := by decide +kernel
theorem dX12_bestSwap_60 : decode cX12_bestSwap 60 = .ok (.iload 4, 2) := by decide +kernel
theorem dX12_bestSwap_62 : decode cX12_bestSwap 62 = .ok (.invokevirtual 349, 3) := by decide +kernel
theorem dX12_bestSwap_65 : decode cX12_bestSwap 65 = .ok (.ifCond .eq 12, 3) := by decide +kernel
theorem dX12_bestSwap_68 : decode cX12_bestSwap 68 = .ok (.aload_n 0, 1) := by decide +kernel
theorem dX12_bestSwap_69 : decode cX12_bestSwap 69 = .ok (.iload 4, 2) := by decide +kernel
theorem dX12_bestSwap_71 : decode cX12_bestSwap 71 = .ok (.invokevirtual 352, 3) := by decide +kernel
theorem dX12_bestSwap_74 : decode cX12_bestSwap 74 = .ok (.goto 4, 3) := by decide +kernel
theorem dX12_bestSwap_77 : decode cX12_bestSwap 77 = .ok (.iconst (-1), 1) := by decide +kernel
theorem dX12_bestSwap_78 : decode cX12_bestSwap 78 = .ok (.istore 5, 2) := by decide +kernel
theorem dX12_bestSwap_80 : decode cX12_bestSwap 80 = .ok (.iload 5, 2) := by decide +kernel
theorem dX12_bestSwap_82 : decode cX12_bestSwap 82 = .ok (.iconst (-1), 1) := by decide +kernel
theorem dX12_bestSwap_83 : decode cX12_bestSwap 83 = .ok (.if_icmp .eq 19, 3) := by decide +kernel
theorem dX12_bestSwap_86 : decode cX12_bestSwap 86 = .ok (.iload_n 3, 1) := by decide +kernel
theorem dX12_bestSwap_87 : decode cX12_bestSwap 87 = .ok (.iload 5, 2) := by decide +kernel
theorem dX12_bestSwap_89 : decode cX12_bestSwap 89 = .ok (.isub, 1) := by decide +kernel
theorem dX12_bestSwap_90 : decode cX12_bestSwap 90 = .ok (.iload_n 2, 1) := by decide +kernel
theorem dX12_bestSwap_91 : decode cX12_bestSwap 91 = .ok (.if_icmp .le 11, 3) := by decide +kernel
theorem dX12_bestSwap_94 : decode cX12_bestSwap 94 = .ok (.iload_n 3, 1) := by decide +kernel
theorem dX12_bestSwap_95 : decode cX12_bestSwap 95 = .ok (.iload 5, 2) := by decide +kernel
theorem dX12_bestSwap_97 : decode cX12_bestSwap 97 = .ok (.isub, 1) := by decide +kernel
theorem dX12_bestSwap_98 : decode cX12_bestSwap 98 = .ok (.istore_n 2, 1) := by decide +kernel
theorem dX12_bestSwap_99 : decode cX12_bestSwap 99 = .ok (.iload 4, 2) := by decide +kernel
theorem dX12_bestSwap_101 : decode cX12_bestSwap 101 = .ok (.istore_n 1, 1) := by decide +kernel
theorem dX12_bestSwap_102 : decode cX12_bestSwap 102 = .ok (.iinc 4 1, 3) := by decide +kernel
theorem dX12_bestSwap_105 : decode cX12_bestSwap 105 = .ok (.goto (-74), 3) := by decide +kernel
theorem dX12_bestSwap_108 : decode cX12_bestSwap 108 = .ok (.iload_n 1, 1) := by decide +kernel
theorem dX12_bestSwap_109 : decode cX12_bestSwap 109 = .ok (.iconst (-1), 1) := by decide +kernel
theorem dX12_bestSwap_110 : decode cX12_bestSwap 110 = .ok (.if_icmp .ne 12, 3) := by decide +kernel
theorem dX12_bestSwap_113 : decode cX12_bestSwap 113 = .ok (.aload_n 0, 1) := by decide +kernel
theorem dX12_bestSwap_114 : decode cX12_bestSwap 114 = .ok (.bipush 8, 2) := by decide +kernel
theorem dX12_bestSwap_116 : decode cX12_bestSwap 116 = .ok (.invokevirtual 143, 3) := by decide +kernel
theorem dX12_bestSwap_119 : decode cX12_bestSwap 119 = .ok (.goto 8, 3) := by decide +kernel
theorem dX12_bestSwap_122 : decode cX12_bestSwap 122 = .ok (.aload_n 0, 1) := by decide +kernel
theorem dX12_bestSwap_123 : decode cX12_bestSwap 123 = .ok (.iload_n 1, 1) := by decide +kernel
theorem dX12_bestSwap_124 : decode cX12_bestSwap 124 = .ok (.invokevirtual 105, 3) := by decide +kernel
theorem dX12_bestSwap_127 : decode cX12_bestSwap 127 = .ok (.ireturn, 1) := by decide +kernel
def pX12_bestSwap_b108 (E : EC) (g : MT) (this : Nat) (l1 : Int32) (h : CT) : Option ((Int32) × CT) := if l1 = (-1) then bd2 (pX12_refuse g h this 8) fun x7 h5 => (some (x7, h5)) else bd2 (pX12_answer g h this l1) fun x4 h2 => (some (x4, h2))
set_option maxRecDepth 10000 in
set_option maxHeartbeats 4000000 in
theorem pX12_bestSwap_b108_ok {X : Cx} {G : Gx} {dk : Nat} {g : MT} {r0 : Int32} {h0 : CT} {this : Nat} (Z : Zx X G cX12_bestSwap RX12 6 dk (some .int) (some (.int r0)) g h0) (hK : 7 ≤ dk) {E : EC} (hE : G.2.2.2 = E) (t0 : gT g this = 11) (l1 : Int32) (h : CT) (hf : pX12_bestSwap_b108 E g this l1 h = some (r0, h0)) : J X g h 108 [(0, va_rf (some this)), (1, .int l1)] [] := by
  unfold pX12_bestSwap_b108 at hf
  refine J_iload_n Z.1 1 dX12_bestSwap_108 rfl rfl ?_
  refine J_iconst Z.1 (v := (-1)) (by decide) dX12_bestSwap_109 ?_
  refine J_icmp_ne Z.1 122 dX12_bestSwap_110 (by decide) (fun c1 => ?_) (fun c1 => ?_)
  · rw [if_neg c1] at hf
    refine J_aload_n Z.1 0 dX12_bestSwap_122 rfl rfl ?_
    refine J_iload_n Z.1 1 dX12_bestSwap_123 rfl rfl ?_
    replace hf := bd2_i hf
    obtain ⟨x4, h2, q3, hf⟩ := hf
    refine J_callV (ci := 10) (as := [.int l1]) (rest := []) (sy := [.int x4]) Z.1 dX12_bestSwap_124 cw_X12_105 (pX12_answer_ok G (dk - 1) (by omega) q3) rfl rfl t0 (zG Z) rfl (by decide) (zF Z (by omega)) (zO Z (by omega) (by decide)) (zM _) Z.2.1 Z.2.1 rfl rfl ?_
    cases hf
    exact J_iret Z.1 Z.2.2.2.2.2 dX12_bestSwap_127
  · rw [if_pos c1] at hf
    refine J_aload_n Z.1 0 dX12_bestSwap_113 rfl rfl ?_
    refine J_bipush Z.1 (v := 8) (by decide) dX12_bestSwap_114 ?_
    replace hf := bd2_i hf
    obtain ⟨x7, h5, q6, hf⟩ := hf
    refine J_callV (ci := 10) (as := [.int 8]) (rest := []) (sy := [.int x7]) Z.1 dX12_bestSwap_116 cw_X12_143 (pX12_refuse_ok G (dk - 1) (by omega) q6) rfl rfl t0 (zG Z) rfl (by decide) (zF Z (by omega)) (zO Z (by omega) (by decide)) (zM _) Z.2.1 Z.2.1 rfl rfl ?_
    refine J_goto Z.1 127 dX12_bestSwap_119 (by decide) ?_
    cases hf
    exact J_iret Z.1 Z.2.2.2.2.2 dX12_bestSwap_127
def pX12_bestSwap_b102 (E : EC) (g : MT) (this : Nat) (k31 : Int32 → Int32 → Int32 → Int32 → CT → Option ((Int32) × CT)) (l1 : Int32) (l2 : Int32) (l3 : Int32) (l4 : Int32) (h : CT) : Option ((Int32) × CT) := lt (l4 + 1) fun x1 => (k31 l1 l2 l3 x1 h)
set_option maxRecDepth 10000 in
set_option maxHeartbeats 4000000 in
theorem pX12_bestSwap_b102_ok {X : Cx} {G : Gx} {dk : Nat} {g : MT} {r0 : Int32} {h0 : CT} {this : Nat} {k31 : Int32 → Int32 → Int32 → Int32 → CT → Option ((Int32) × CT)} (Z : Zx X G cX12_bestSwap RX12 6 dk (some .int) (some (.int r0)) g h0) (hK : 7 ≤ dk) {E : EC} (hE : G.2.2.2 = E) (t0 : gT g this = 11) (hk31 : ∀ (l1 : Int32) (l2 : Int32) (l3 : Int32) (l4 : Int32) (h : CT), k31 l1 l2 l3 l4 h = some (r0, h0) → J X g h 31 [(0, va_rf (some this)), (1, .int l1), (2, .int l2), (3, .int l3), (4, .int l4)] []) (l1 : Int32) (l2 : Int32) (l3 : Int32) (l4 : Int32) (h : CT) (hf : pX12_bestSwap_b102 E g this k31 l1 l2 l3 l4 h = some (r0, h0)) : J X g h 102 [(0, va_rf (some this)), (1, .int l1), (2, .int l2), (3, .int l3), (4, .int l4)] [] := by
  unfold pX12_bestSwap_b102 at hf
  refine J_iinc Z.1 (v := 1) (lv2 := [(4, .int (l4 + 1)), (0, va_rf (some this)), (1, .int l1), (2, .int l2), (3, .int l3)]) 4 dX12_bestSwap_102 rfl (by decide) (zL Z (by decide)) rfl ?_
  obtain ⟨x1, ex1⟩ : ∃ z, z = (l4 + 1) := ⟨_, rfl⟩
  replace hf := lt_i hf x1 ex1
  rw [← ex1]
  refine J_goto Z.1 31 dX12_bestSwap_105 (by decide) ?_
  refine J_lv [1, 2, 3, 4, 0] rfl ?_
  exact hk31 _ _ _ _ _ hf
def pX12_bestSwap_b78 (E : EC) (g : MT) (this : Nat) (k31 : Int32 → Int32 → Int32 → Int32 → CT → Option ((Int32) × CT)) (l1 : Int32) (l2 : Int32) (l3 : Int32) (l4 : Int32) (s0 : Int32) (h : CT) : Option ((Int32) × CT) := if s0 = (-1) then pX12_bestSwap_b102 E g this k31 l1 l2 l3 l4 h else if (l3 - s0) ≤ l2 then pX12_bestSwap_b102 E g this k31 l1 l2 l3 l4 h else lt (l3 - s0) fun x3 => (pX12_bestSwap_b102 E g this k31 l4 x3 l3 l4 h)
set_option maxRecDepth 10000 in
set_option maxHeartbeats 4000000 in
theorem pX12_bestSwap_b78_ok {X : Cx} {G : Gx} {dk : Nat} {g : MT} {r0 : Int32} {h0 : CT} {this : Nat} {k31 : Int32 → Int32 → Int32 → Int32 → CT → Option ((Int32) × CT)} (Z : Zx X G cX12_bestSwap RX12 6 dk (some .int) (some (.int r0)) g h0) (hK : 7 ≤ dk) {E : EC} (hE : G.2.2.2 = E) (t0 : gT g this = 11) (hk31 : ∀ (l1 : Int32) (l2 : Int32) (l3 : Int32) (l4 : Int32) (h : CT), k31 l1 l2 l3 l4 h = some (r0, h0) → J X g h 31 [(0, va_rf (some this)), (1, .int l1), (2, .int l2), (3, .int l3), (4, .int l4)] []) (l1 : Int32) (l2 : Int32) (l3 : Int32) (l4 : Int32) (s0 : Int32) (h : CT) (hf : pX12_bestSwap_b78 E g this k31 l1 l2 l3 l4 s0 h = some (r0, h0)) : J X g h 78 [(0, va_rf (some this)), (1, .int l1), (2, .int l2), (3, .int l3), (4, .int l4)] [.int s0] := by
  unfold pX12_bestSwap_b78 at hf
  refine J_istore Z.1 (lv2 := [(5, .int s0), (0, va_rf (some this)), (1, .int l1), (2, .int l2), (3, .int l3), (4, .int l4)]) dX12_bestSwap_78 (zL Z (by decide)) rfl ?_
  refine J_iload Z.1 0 dX12_bestSwap_80 rfl ?_
  refine J_iconst Z.1 (v := (-1)) (by decide) dX12_bestSwap_82 ?_
  refine J_icmp_eq Z.1 102 dX12_bestSwap_83 (by decide) (fun c1 => ?_) (fun c1 => ?_)
  · rw [if_pos c1] at hf
    refine J_lv [1, 2, 3, 4, 5] rfl ?_
    exact pX12_bestSwap_b102_ok Z hK hE t0 hk31 _ _ _ _ _ hf
  · rw [if_neg c1] at hf
    refine J_iload_n Z.1 4 dX12_bestSwap_86 rfl rfl ?_
    refine J_iload Z.1 0 dX12_bestSwap_87 rfl ?_
    refine J_isub Z.1 dX12_bestSwap_89 ?_
    refine J_iload_n Z.1 3 dX12_bestSwap_90 rfl rfl ?_
    refine J_icmp_le Z.1 102 dX12_bestSwap_91 (by decide) (fun c2 => ?_) (fun c2 => ?_)
    · rw [if_pos c2] at hf
      refine J_lv [1, 2, 3, 4, 5] rfl ?_
      exact pX12_bestSwap_b102_ok Z hK hE t0 hk31 _ _ _ _ _ hf
    · rw [if_neg c2] at hf
      refine J_iload_n Z.1 4 dX12_bestSwap_94 rfl rfl ?_
      refine J_iload Z.1 0 dX12_bestSwap_95 rfl ?_
      refine J_isub Z.1 dX12_bestSwap_97 ?_
      refine J_ti (fun x3 ex3 => ?_)
      replace hf := lt_i hf x3 ex3
      refine J_istore_n Z.1 (lv2 := [(2, .int x3), (5, .int s0), (0, va_rf (some this)), (1, .int l1), (3, .int l3), (4, .int l4)]) dX12_bestSwap_98 rfl (zL Z (by decide)) rfl ?_
      refine J_iload Z.1 5 dX12_bestSwap_99 rfl ?_
      refine J_istore_n Z.1 (lv2 := [(1, .int l4), (2, .int x3), (5, .int s0), (0, va_rf (some this)), (3, .int l3), (4, .int l4)]) dX12_bestSwap_101 rfl (zL Z (by decide)) rfl ?_
      refine J_lv [3, 0, 1, 4, 5] rfl ?_
      exact pX12_bestSwap_b102_ok Z hK hE t0 hk31 _ _ _ _ _ hf
def pX12_bestSwap_b31 (E : EC) (g : MT) (this : Nat) (k31 : Int32 → Int32 → Int32 → Int32 → CT → Option ((Int32) × CT)) (l1 : Int32) (l2 : Int32) (l3 : Int32) (l4 : Int32) (h : CT) : Option ((Int32) × CT) := if l3 = (-1) then pX12_bestSwap_b108 E g this  l1 h else lt (hR h this 4) fun r2 => (nn r2 fun a2 => (tg g a2 3 (lt (hR h a2 8) fun r4 => (nn r4 fun a4 => (tg g a4 6 (if ((hI h a4 1) - 1) ≤ l4 then pX12_bestSwap_b108 E g this  l1 h else lt (hR h this 4) fun r7 => (nn r7 fun a7 => (tg g a7 3 (lt (hR h a7 8) fun r9 => (nn r9 fun a9 => (tg g a9 6 (bd (pX7_canSwap E g h a9 l4) fun x11 => (if x11 = 0 then pX12_bestSwap_b78 E g this k31 l1 l2 l3 l4 (-1) h else bd2 (pX12_trialCycles E g h this l4) fun x16 h14 => (pX12_bestSwap_b78 E g this k31 l1 l2 l3 l4 x16 h14))))))))))))))
set_option maxRecDepth 10000 in
set_option maxHeartbeats 4000000 in
theorem pX12_bestSwap_b31_ok {X : Cx} {G : Gx} {dk : Nat} {g : MT} {r0 : Int32} {h0 : CT} {this : Nat} {k31 : Int32 → Int32 → Int32 → Int32 → CT → Option ((Int32) × CT)} (Z : Zx X G cX12_bestSwap RX12 6 dk (some .int) (some (.int r0)) g h0) (hK : 7 ≤ dk) {E : EC} (hE : G.2.2.2 = E) (t0 : gT g this = 11) (hk31 : ∀ (l1 : Int32) (l2 : Int32) (l3 : Int32) (l4 : Int32) (h : CT), k31 l1 l2 l3 l4 h = some (r0, h0) → J X g h 31 [(0, va_rf (some this)), (1, .int l1), (2, .int l2), (3, .int l3), (4, .int l4)] []) (l1 : Int32) (l2 : Int32) (l3 : Int32) (l4 : Int32) (h : CT) (hf : pX12_bestSwap_b31 E g this k31 l1 l2 l3 l4 h = some (r0, h0)) : J X g h 31 [(0, va_rf (some this)), (1, .int l1), (2, .int l2), (3, .int l3), (4, .int l4)] [] := by
  unfold pX12_bestSwap_b31 at hf
  refine J_iload_n Z.1 3 dX12_bestSwap_31 rfl rfl ?_
  refine J_iconst Z.1 (v := (-1)) (by decide) dX12_bestSwap_32 ?_
  refine J_icmp_eq Z.1 108 dX12_bestSwap_33 (by decide) (fun c1 => ?_) (fun c1 => ?_)
  · rw [if_pos c1] at hf
    refine J_lv [0, 1] rfl ?_
    exact pX12_bestSwap_b108_ok Z hK hE t0  _ _ hf
  · rw [if_neg c1] at hf
    refine J_iload Z.1 4 dX12_bestSwap_36 rfl ?_
    refine J_aload_n Z.1 0 dX12_bestSwap_38 rfl rfl ?_
    refine J_get (v := va_rf (hR h this 4)) Z.1 dX12_bestSwap_39 fl_X12_30 t0 rfl ?_
    refine J_tr (fun r2 er2 => ?_)
    replace hf := lt_i hf r2 er2
    replace hf := nn_i hf
    obtain ⟨a2, rfl, hf⟩ := hf
    replace hf := tg_i hf
    obtain ⟨t3, hf⟩ := hf
    refine J_get (v := va_rf (hR h a2 8)) Z.1 dX12_bestSwap_42 fl_X12_178 t3 rfl ?_
    refine J_tr (fun r4 er4 => ?_)
    replace hf := lt_i hf r4 er4
    replace hf := nn_i hf
    obtain ⟨a4, rfl, hf⟩ := hf
    replace hf := tg_i hf
    obtain ⟨t5, hf⟩ := hf
    refine J_get (v := .int (hI h a4 1)) Z.1 dX12_bestSwap_45 fl_X12_184 t5 rfl ?_
    refine J_iconst Z.1 (v := 1) (by decide) dX12_bestSwap_48 ?_
    refine J_isub Z.1 dX12_bestSwap_49 ?_
    refine J_icmp_ge Z.1 108 dX12_bestSwap_50 (by decide) (fun c6 => ?_) (fun c6 => ?_)
    · rw [if_pos c6] at hf
      refine J_lv [0, 1] rfl ?_
      exact pX12_bestSwap_b108_ok Z hK hE t0  _ _ hf
    · rw [if_neg c6] at hf
      refine J_aload_n Z.1 0 dX12_bestSwap_53 rfl rfl ?_
      refine J_get (v := va_rf (hR h this 4)) Z.1 dX12_bestSwap_54 fl_X12_30 t0 rfl ?_
      refine J_tr (fun r7 er7 => ?_)
      replace hf := lt_i hf r7 er7
      replace hf := nn_i hf
      obtain ⟨a7, rfl, hf⟩ := hf
      replace hf := tg_i hf
      obtain ⟨t8, hf⟩ := hf
      refine J_get (v := va_rf (hR h a7 8)) Z.1 dX12_bestSwap_57 fl_X12_178 t8 rfl ?_
      refine J_tr (fun r9 er9 => ?_)
      replace hf := lt_i hf r9 er9
      refine J_iload Z.1 4 dX12_bestSwap_60 rfl ?_
      replace hf := nn_i hf
      obtain ⟨a9, rfl, hf⟩ := hf
      replace hf := tg_i hf
      obtain ⟨t10, hf⟩ := hf
      replace hf := bd_i hf
      obtain ⟨x11, q12, hf⟩ := hf
      refine J_callV (ci := 5) (as := [.int l4]) (rest := []) (sy := [.int x11]) Z.1 dX12_bestSwap_62 cw_X12_349 (pX7_canSwap_ok G (dk - 1) (by omega) hE q12) rfl rfl t10 (zG Z) rfl (by decide) (zF Z (by omega)) (zO Z (by omega) (by decide)) (zM _) Z.2.1 Z.2.1 rfl rfl ?_
      refine J_if_eq Z.1 77 dX12_bestSwap_65 (by decide) (fun c13 => ?_) (fun c13 => ?_)
      · rw [if_pos c13] at hf
        refine J_iconst Z.1 (v := (-1)) (by decide) dX12_bestSwap_77 ?_
        exact pX12_bestSwap_b78_ok Z hK hE t0 hk31 _ _ _ _ _ _ hf
      · rw [if_neg c13] at hf
        refine J_aload_n Z.1 0 dX12_bestSwap_68 rfl rfl ?_
        refine J_iload Z.1 4 dX12_bestSwap_69 rfl ?_
        replace hf := bd2_i hf
        obtain ⟨x16, h14, q15, hf⟩ := hf
        refine J_callV (ci := 10) (as := [.int l4]) (rest := []) (sy := [.int x16]) Z.1 dX12_bestSwap_71 cw_X12_352 (pX12_trialCycles_ok G (dk - 1) (by omega) hE q15) rfl rfl t0 (zG Z) rfl (by decide) (zF Z (by omega)) (zO Z (by omega) (by decide)) (zM _) Z.2.1 Z.2.1 rfl rfl ?_
        refine J_goto Z.1 78 dX12_bestSwap_74 (by decide) ?_
        exact pX12_bestSwap_b78_ok Z hK hE t0 hk31 _ _ _ _ _ _ hf
def pX12_bestSwap_l31 (E : EC) (g : MT) (this : Nat) : Nat → Int32 → Int32 → Int32 → Int32 → CT → Option ((Int32) × CT)
  | 0, _, _, _, _, _ => none
  | n + 1, l1, l2, l3, l4, h => pX12_bestSwap_b31 E g this (pX12_bestSwap_l31 E g this n) l1 l2 l3 l4 h
theorem pX12_bestSwap_l31_ok {X : Cx} {G : Gx} {dk : Nat} {g : MT} {r0 : Int32} {h0 : CT} {this : Nat} (Z : Zx X G cX12_bestSwap RX12 6 dk (some .int) (some (.int r0)) g h0) (hK : 7 ≤ dk) {E : EC} (hE : G.2.2.2 = E) (t0 : gT g this = 11) : ∀ (n : Nat) (l1 : Int32) (l2 : Int32) (l3 : Int32) (l4 : Int32) (h : CT), pX12_bestSwap_l31 E g this n l1 l2 l3 l4 h = some (r0, h0) → J X g h 31 [(0, va_rf (some this)), (1, .int l1), (2, .int l2), (3, .int l3), (4, .int l4)] [] := by
  intro n
  induction n with
  | zero => intro l1 l2 l3 l4 h hf; cases hf
  | succ n ih => intro l1 l2 l3 l4 h hf; exact pX12_bestSwap_b31_ok Z hK hE t0 ih l1 l2 l3 l4 h hf
def pX12_bestSwap_b27 (E : EC) (g : MT) (this : Nat) (l1 : Int32) (l2 : Int32) (s0 : Int32) (h : CT) : Option ((Int32) × CT) := pX12_bestSwap_l31 E g this  FUEL l1 l2 s0 0 h
set_option maxRecDepth 10000 in
set_option maxHeartbeats 4000000 in
theorem pX12_bestSwap_b27_ok {X : Cx} {G : Gx} {dk : Nat} {g : MT} {r0 : Int32} {h0 : CT} {this : Nat} (Z : Zx X G cX12_bestSwap RX12 6 dk (some .int) (some (.int r0)) g h0) (hK : 7 ≤ dk) {E : EC} (hE : G.2.2.2 = E) (t0 : gT g this = 11) (l1 : Int32) (l2 : Int32) (s0 : Int32) (h : CT) (hf : pX12_bestSwap_b27 E g this l1 l2 s0 h = some (r0, h0)) : J X g h 27 [(0, va_rf (some this)), (1, .int l1), (2, .int l2)] [.int s0] := by
  unfold pX12_bestSwap_b27 at hf
  refine J_istore_n Z.1 (lv2 := [(3, .int s0), (0, va_rf (some this)), (1, .int l1), (2, .int l2)]) dX12_bestSwap_27 rfl (zL Z (by decide)) rfl ?_
  refine J_iconst Z.1 (v := 0) (by decide) dX12_bestSwap_28 ?_
  refine J_istore Z.1 (lv2 := [(4, .int 0), (3, .int s0), (0, va_rf (some this)), (1, .int l1), (2, .int l2)]) dX12_bestSwap_29 (zL Z (by decide)) rfl ?_
  refine J_lv [2, 3, 4, 1, 0] rfl ?_
  exact pX12_bestSwap_l31_ok Z hK hE t0  FUEL _ _ _ _ _ hf
def pX12_bestSwap (E : EC) (g : MT) (h : CT) (this : Nat) : Option ((Int32) × CT) := tg g this 11 (lt (hR h this 4) fun r1 => (nn r1 fun a1 => (tg g a1 3 (lt (hR h a1 8) fun r3 => (nn r3 fun a3 => (tg g a3 6 (if 2 ≤ (hI h a3 1) then bd2 (pX12_trialCycles E g h this (-1)) fun x8 h6 => (pX12_bestSwap_b27 E g this  (-1) 0 x8 h6) else pX12_bestSwap_b27 E g this  (-1) 0 (-1) h)))))))
set_option maxRecDepth 10000 in
set_option maxHeartbeats 4000000 in
theorem pX12_bestSwap_ok (G : Gx) (dk : Nat) (hK : 7 ≤ dk) {g : MT} {E : EC} (hE : G.2.2.2 = E) {h h0 : CT} {this : Nat} {r0 : Int32} (hf : pX12_bestSwap E g h this = some (r0, h0)) : Ctr G dk yX12_bestSwap cX12_bestSwap 6 (some .int) [va_rf (some this)] g h (some (.int r0)) g h0 := by
  refine Ctr.ofZ (lv := [(0, va_rf (some this))]) (by decide +kernel) (by simp [cat_i, cat_l, cat_d, cat_rf]) rfl fun X Z => ?_
  unfold pX12_bestSwap at hf
  replace hf := tg_i hf
  obtain ⟨t0, hf⟩ := hf
  refine J_iconst Z.1 (v := (-1)) (by decide) dX12_bestSwap_0 ?_
  refine J_istore_n Z.1 (lv2 := [(1, .int (-1)), (0, va_rf (some this))]) dX12_bestSwap_1 rfl (zL Z (by decide)) rfl ?_
  refine J_iconst Z.1 (v := 0) (by decide) dX12_bestSwap_2 ?_
  refine J_istore_n Z.1 (lv2 := [(2, .int 0), (1, .int (-1)), (0, va_rf (some this))]) dX12_bestSwap_3 rfl (zL Z (by decide)) rfl ?_
  refine J_aload_n Z.1 2 dX12_bestSwap_4 rfl rfl ?_
  refine J_get (v := va_rf (hR h this 4)) Z.1 dX12_bestSwap_5 fl_X12_30 t0 rfl ?_
  refine J_tr (fun r1 er1 => ?_)
  replace hf := lt_i hf r1 er1
  replace hf := nn_i hf
  obtain ⟨a1, rfl, hf⟩ := hf
  replace hf := tg_i hf
  obtain ⟨t2, hf⟩ := hf
  refine J_get (v := va_rf (hR h a1 8)) Z.1 dX12_bestSwap_8 fl_X12_178 t2 rfl ?_
  refine J_tr (fun r3 er3 => ?_)
  replace hf := lt_i hf r3 er3
  replace hf := nn_i hf
  obtain ⟨a3, rfl, hf⟩ := hf
  replace hf := tg_i hf
  obtain ⟨t4, hf⟩ := hf
  refine J_get (v := .int (hI h a3 1)) Z.1 dX12_bestSwap_11 fl_X12_184 t4 rfl ?_
  refine J_iconst Z.1 (v := 2) (by decide) dX12_bestSwap_14 ?_
  refine J_icmp_ge Z.1 22 dX12_bestSwap_15 (by decide) (fun c5 => ?_) (fun c5 => ?_)
  · rw [if_pos c5] at hf
    refine J_aload_n Z.1 2 dX12_bestSwap_22 rfl rfl ?_
    refine J_iconst Z.1 (v := (-1)) (by decide) dX12_bestSwap_23 ?_
    replace hf := bd2_i hf
    obtain ⟨x8, h6, q7, hf⟩ := hf
    refine J_callV (ci := 10) (as := [.int (-1)]) (rest := []) (sy := [.int x8]) Z.1 dX12_bestSwap_24 cw_X12_352 (pX12_trialCycles_ok G (dk - 1) (by omega) hE q7) rfl rfl t0 (zG Z) rfl (by decide) (zF Z (by omega)) (zO Z (by omega) (by decide)) (zM _) Z.2.1 Z.2.1 rfl rfl ?_
    refine J_lv [2, 1, 0] rfl ?_
    exact pX12_bestSwap_b27_ok Z hK hE t0  _ _ _ _ hf
  · rw [if_neg c5] at hf
    refine J_iconst Z.1 (v := (-1)) (by decide) dX12_bestSwap_18 ?_
    refine J_goto Z.1 27 dX12_bestSwap_19 (by decide) ?_
    refine J_lv [2, 1, 0] rfl ?_
    exact pX12_bestSwap_b27_ok Z hK hE t0  _ _ _ _ hf
