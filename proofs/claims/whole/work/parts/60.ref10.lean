/-! written by wip/whole/gen.py out of the printed bytecode -/
theorem dX13_readCode_0 : decode cX13_readCode 0 = .ok (.aload_n 0, 1) := by decide +kernel
theorem dX13_readCode_1 : decode cX13_readCode 1 = .ok (.invokevirtual 256, 3) := by decide +kernel
theorem dX13_readCode_4 : decode cX13_readCode 4 = .ok (.istore_n 2, 1) := by decide +kernel
theorem dX13_readCode_5 : decode cX13_readCode 5 = .ok (.iload_n 2, 1) := by decide +kernel
theorem dX13_readCode_6 : decode cX13_readCode 6 = .ok (.ifCond .ge 7, 3) := by decide +kernel
theorem dX13_readCode_9 : decode cX13_readCode 9 = .ok (.aload_n 0, 1) := by decide +kernel
theorem dX13_readCode_10 : decode cX13_readCode 10 = .ok (.invokevirtual 208, 3) := by decide +kernel
theorem dX13_readCode_13 : decode cX13_readCode 13 = .ok (.aload_n 0, 1) := by decide +kernel
theorem dX13_readCode_14 : decode cX13_readCode 14 = .ok (.getfield 195, 3) := by decide +kernel
theorem dX13_readCode_17 : decode cX13_readCode 17 = .ok (.ifCond .ne 26, 3) := by decide +kernel
theorem dX13_readCode_20 : decode cX13_readCode 20 = .ok (.aload_n 0, 1) := by decide +kernel
theorem dX13_readCode_21 : decode cX13_readCode 21 = .ok (.getfield 31, 3) := by decide +kernel
theorem dX13_readCode_24 : decode cX13_readCode 24 = .ok (.sipush 989, 3) := by decide +kernel
theorem dX13_readCode_27 : decode cX13_readCode 27 = .ok (.iaload, 1) := by decide +kernel
theorem dX13_readCode_28 : decode cX13_readCode 28 = .ok (.bipush 30, 2) := by decide +kernel
theorem dX13_readCode_30 : decode cX13_readCode 30 = .ok (.if_icmp .ne 13, 3) := by decide +kernel
theorem dX13_readCode_33 : decode cX13_readCode 33 = .ok (.aload_n 0, 1) := by decide +kernel
theorem dX13_readCode_34 : decode cX13_readCode 34 = .ok (.bipush 6, 2) := by decide +kernel
theorem dX13_readCode_36 : decode cX13_readCode 36 = .ok (.aload_n 0, 1) := by decide +kernel
theorem dX13_readCode_37 : decode cX13_readCode 37 = .ok (.getfield 136, 3) := by decide +kernel
theorem dX13_readCode_40 : decode cX13_readCode 40 = .ok (.invokevirtual 201, 3) := by decide +kernel
theorem dX13_readCode_43 : decode cX13_readCode 43 = .ok (.aload_n 0, 1) := by decide +kernel
theorem dX13_readCode_44 : decode cX13_readCode 44 = .ok (.getfield 195, 3) := by decide +kernel
theorem dX13_readCode_47 : decode cX13_readCode 47 = .ok (.ifCond .ne 23, 3) := by decide +kernel
theorem dX13_readCode_50 : decode cX13_readCode 50 = .ok (.iload_n 2, 1) := by decide +kernel
theorem dX13_readCode_51 : decode cX13_readCode 51 = .ok (.bipush 25, 2) := by decide +kernel
theorem dX13_readCode_53 : decode cX13_readCode 53 = .ok (.if_icmp .ne 17, 3) := by decide +kernel
theorem dX13_readCode_56 : decode cX13_readCode 56 = .ok (.iload_n 1, 1) := by decide +kernel
theorem dX13_readCode_57 : decode cX13_readCode 57 = .ok (.ifCond .eq 13, 3) := by decide +kernel
theorem dX13_readCode_60 : decode cX13_readCode 60 = .ok (.aload_n 0, 1) := by decide +kernel
theorem dX13_readCode_61 : decode cX13_readCode 61 = .ok (.bipush 7, 2) := by decide +kernel
theorem dX13_readCode_63 : decode cX13_readCode 63 = .ok (.aload_n 0, 1) := by decide +kernel
theorem dX13_readCode_64 : decode cX13_readCode 64 = .ok (.getfield 136, 3) := by decide +kernel
theorem dX13_readCode_67 : decode cX13_readCode 67 = .ok (.invokevirtual 201, 3) := by decide +kernel
theorem dX13_readCode_70 : decode cX13_readCode 70 = .ok (.aload_n 0, 1) := by decide +kernel
theorem dX13_readCode_71 : decode cX13_readCode 71 = .ok (.getfield 195, 3) := by decide +kernel
theorem dX13_readCode_74 : decode cX13_readCode 74 = .ok (.ifCond .le 4, 3) := by decide +kernel
theorem dX13_readCode_77 : decode cX13_readCode 77 = .ok (.return_, 1) := by decide +kernel
theorem dX13_readCode_78 : decode cX13_readCode 78 = .ok (.sipush 990, 3) := by decide +kernel
theorem dX13_readCode_81 : decode cX13_readCode 81 = .ok (.bipush 8, 2) := by decide +kernel
theorem dX13_readCode_83 : decode cX13_readCode 83 = .ok (.aload_n 0, 1) := by decide +kernel
theorem dX13_readCode_84 : decode cX13_readCode 84 = .ok (.getfield 31, 3) := by decide +kernel
theorem dX13_readCode_87 : decode cX13_readCode 87 = .ok (.sipush 989, 3) := by decide +kernel
theorem dX13_readCode_90 : decode cX13_readCode 90 = .ok (.iaload, 1) := by decide +kernel
theorem dX13_readCode_91 : decode cX13_readCode 91 = .ok (.imul, 1) := by decide +kernel
theorem dX13_readCode_92 : decode cX13_readCode 92 = .ok (.iadd, 1) := by decide +kernel
theorem dX13_readCode_93 : decode cX13_readCode 93 = .ok (.istore_n 3, 1) := by decide +kernel
theorem dX13_readCode_94 : decode cX13_readCode 94 = .ok (.aload_n 0, 1) := by decide +kernel
theorem dX13_readCode_95 : decode cX13_readCode 95 = .ok (.getfield 31, 3) := by decide +kernel
theorem dX13_readCode_98 : decode cX13_readCode 98 = .ok (.sipush 989, 3) := by decide +kernel
theorem dX13_readCode_101 : decode cX13_readCode 101 = .ok (.dup2, 1) := by decide +kernel
theorem dX13_readCode_102 : decode cX13_readCode 102 = .ok (.iaload, 1) := by decide +kernel
theorem dX13_readCode_103 : decode cX13_readCode 103 = .ok (.iconst 1, 1) := by decide +kernel
theorem dX13_readCode_104 : decode cX13_readCode 104 = .ok (.iadd, 1) := by decide +kernel
theorem dX13_readCode_105 : decode cX13_readCode 105 = .ok (.iastore, 1) := by decide +kernel
theorem dX13_readCode_106 : decode cX13_readCode 106 = .ok (.aload_n 0, 1) := by decide +kernel
theorem dX13_readCode_107 : decode cX13_readCode 107 = .ok (.invokevirtual 205, 3) := by decide +kernel
theorem dX13_readCode_110 : decode cX13_readCode 110 = .ok (.aload_n 0, 1) := by decide +kernel
theorem dX13_readCode_111 : decode cX13_readCode 111 = .ok (.getfield 31, 3) := by decide +kernel
theorem dX13_readCode_114 : decode cX13_readCode 114 = .ok (.iload_n 3, 1) := by decide +kernel
theorem dX13_readCode_115 : decode cX13_readCode 115 = .ok (.iload_n 2, 1) := by decide +kernel
theorem dX13_readCode_116 : decode cX13_readCode 116 = .ok (.iastore, 1) := by decide +kernel
theorem dX13_readCode_117 : decode cX13_readCode 117 = .ok (.aload_n 0, 1) := by decide +kernel
theorem dX13_readCode_118 : decode cX13_readCode 118 = .ok (.iload_n 3, 1) := by decide +kernel
theorem dX13_readCode_119 : decode cX13_readCode 119 = .ok (.iload_n 2, 1) := by decide +kernel
theorem dX13_readCode_120 : decode cX13_readCode 120 = .ok (.invokevirtual 259, 3) := by decide +kernel
theorem dX13_readCode_123 : decode cX13_readCode 123 = .ok (.aload_n 0, 1) := by decide +kernel
theorem dX13_readCode_124 : decode cX13_readCode 124 = .ok (.aload_n 0, 1) := by decide +kernel
theorem dX13_readCode_125 : decode cX13_readCode 125 = .ok (.getfield 142, 3) := by decide +kernel
theorem dX13_readCode_128 : decode cX13_readCode 128 = .ok (.iconst 3, 1) := by decide +kernel
theorem dX13_readCode_129 : decode cX13_readCode 129 = .ok (.if_icmp .ne 7, 3) := by decide +kernel
theorem dX13_readCode_132 : decode cX13_readCode 132 = .ok (.iconst 1, 1) := by decide +kernel
theorem dX13_readCode_133 : decode cX13_readCode 133 = .ok (.goto 4, 3) := by decide +kernel
theorem dX13_readCode_136 : decode cX13_readCode 136 = .ok (.iconst 0, 1) := by decide +kernel
theorem dX13_readCode_137 : decode cX13_readCode 137 = .ok (.invokevirtual 214, 3) := by decide +kernel
theorem dX13_readCode_140 : decode cX13_readCode 140 = .ok (.iload_n 2, 1) := by decide +kernel
theorem dX13_readCode_141 : decode cX13_readCode 141 = .ok (.bipush 25, 2) := by decide +kernel
theorem dX13_readCode_143 : decode cX13_readCode 143 = .ok (.if_icmp .ne 25, 3) := by decide +kernel
theorem dX13_readCode_146 : decode cX13_readCode 146 = .ok (.aload_n 0, 1) := by decide +kernel
theorem dX13_readCode_147 : decode cX13_readCode 147 = .ok (.getfield 195, 3) := by decide +kernel
theorem dX13_readCode_150 : decode cX13_readCode 150 = .ok (.ifCond .ne 18, 3) := by decide +kernel
theorem dX13_readCode_153 : decode cX13_readCode 153 = .ok (.aload_n 0, 1) := by decide +kernel
theorem dX13_readCode_154 : decode cX13_readCode 154 = .ok (.invokevirtual 262, 3) := by decide +kernel
theorem dX13_readCode_157 : decode cX13_readCode 157 = .ok (.ifCond .ne 11, 3) := by decide +kernel
theorem dX13_readCode_160 : decode cX13_readCode 160 = .ok (.aload_n 0, 1) := by decide +kernel
theorem dX13_readCode_161 : decode cX13_readCode 161 = .ok (.iconst 1, 1) := by decide +kernel
theorem dX13_readCode_162 : decode cX13_readCode 162 = .ok (.invokevirtual 265, 3) := by decide +kernel
theorem dX13_readCode_165 : decode cX13_readCode 165 = .ok (.goto (-25), 3) := by decide +kernel
theorem dX13_readCode_168 : decode cX13_readCode 168 = .ok (.iload_n 2, 1) := by decide +kernel
theorem dX13_readCode_169 : decode cX13_readCode 169 = .ok (.bipush 25, 2) := by decide +kernel
theorem dX13_readCode_171 : decode cX13_readCode 171 = .ok (.if_icmp .ne 28, 3) := by decide +kernel
theorem dX13_readCode_174 : decode cX13_readCode 174 = .ok (.aload_n 0, 1) := by decide +kernel
theorem dX13_readCode_175 : decode cX13_readCode 175 = .ok (.aload_n 0, 1) := by decide +kernel
theorem dX13_readCode_176 : decode cX13_readCode 176 = .ok (.invokevirtual 262, 3) := by decide +kernel
theorem dX13_readCode_179 : decode cX13_readCode 179 = .ok (.invokevirtual 214, 3) := by decide +kernel
theorem dX13_readCode_182 : decode cX13_readCode 182 = .ok (.aload_n 0, 1) := by decide +kernel
theorem dX13_readCode_183 : decode cX13_readCode 183 = .ok (.aload_n 0, 1) := by decide +kernel
theorem dX13_readCode_184 : decode cX13_readCode 184 = .ok (.getfield 142, 3) := by decide +kernel
theorem dX13_readCode_187 : decode cX13_readCode 187 = .ok (.iconst 3, 1) := by decide +kernel
theorem dX13_readCode_188 : decode cX13_readCode 188 = .ok (.if_icmp .ne 7, 3) := by decide +kernel
theorem dX13_readCode_191 : decode cX13_readCode 191 = .ok (.iconst 1, 1) := by decide +kernel
theorem dX13_readCode_192 : decode cX13_readCode 192 = .ok (.goto 4, 3) := by decide +kernel
theorem dX13_readCode_195 : decode cX13_readCode 195 = .ok (.iconst 0, 1) := by decide +kernel
theorem dX13_readCode_196 : decode cX13_readCode 196 = .ok (.invokevirtual 214, 3) := by decide +kernel
theorem dX13_readCode_199 : decode cX13_readCode 199 = .ok (.aload_n 0, 1) := by decide +kernel
theorem dX13_readCode_200 : decode cX13_readCode 200 = .ok (.getfield 31, 3) := by decide +kernel
theorem dX13_readCode_203 : decode cX13_readCode 203 = .ok (.iload_n 3, 1) := by decide +kernel
theorem dX13_readCode_204 : decode cX13_readCode 204 = .ok (.bipush 7, 2) := by decide +kernel
theorem dX13_readCode_206 : decode cX13_readCode 206 = .ok (.iadd, 1) := by decide +kernel
theorem dX13_readCode_207 : decode cX13_readCode 207 = .ok (.aload_n 0, 1) := by decide +kernel
theorem dX13_readCode_208 : decode cX13_readCode 208 = .ok (.getfield 31, 3) := by decide +kernel
theorem dX13_readCode_211 : decode cX13_readCode 211 = .ok (.sipush 989, 3) := by decide +kernel
theorem dX13_readCode_214 : decode cX13_readCode 214 = .ok (.iaload, 1) := by decide +kernel
theorem dX13_readCode_215 : decode cX13_readCode 215 = .ok (.iastore, 1) := by decide +kernel
theorem dX13_readCode_216 : decode cX13_readCode 216 = .ok (.return_, 1) := by decide +kernel
def pX13_readCode_o_b199 (g : MT) (fO : CT → Nat → Int32 → Option CT) (this : Nat) (p1 : Int32) (l3 : Int32) (h : CT) : Option CT := lt (hR h this 19) fun r1 => (lt (hR h this 19) fun r2 => (nn r2 fun a2 => (tg g a2 20 (ix (gL g a2) 989 (nn r1 fun a1 => (tg g a1 20 (ix (gL g a1) (l3 + 7) (lt (sI h a1 (Int32.toNatClampNeg (l3 + 7)) (hI h a2 (Int32.toNatClampNeg 989))) fun h7 => (some h7)))))))))
set_option maxRecDepth 10000 in
set_option maxHeartbeats 4000000 in
theorem pX13_readCode_o_b199_ok {X : Cx} {G : Gx} {dk : Nat} {g : MT} {h0 : CT} {this : Nat} {p1 : Int32} (Z : Zx X G cX13_readCode RX13 4 dk none none g h0) (hK : 6 ≤ dk) {fO : CT → Nat → Int32 → Option CT} {KO : Nat} (hO : ∀ (d : Nat), KO ≤ d → ∀ (h : CT) (this : Nat) (p1 : Int32) (h1 : CT), fO h this p1 = some h1 → Ctr G d yX13_readCode cX13_readCode 4 none [va_rf (some this), .int p1] g h none g h1) (hKO : KO + 1 ≤ dk) (t0 : gT g this = 12) (l3 : Int32) (h : CT) (hf : pX13_readCode_o_b199 g fO this p1 l3 h = some h0) : J X g h 199 [(0, va_rf (some this)), (3, .int l3)] [] := by
  unfold pX13_readCode_o_b199 at hf
  refine J_aload_n Z.1 0 dX13_readCode_199 rfl rfl ?_
  refine J_get (v := va_rf (hR h this 19)) Z.1 dX13_readCode_200 fl_X13_31 t0 rfl ?_
  refine J_tr (fun r1 er1 => ?_)
  replace hf := lt_i hf r1 er1
  refine J_iload_n Z.1 1 dX13_readCode_203 rfl rfl ?_
  refine J_bipush Z.1 (v := 7) (by decide) dX13_readCode_204 ?_
  refine J_iadd Z.1 dX13_readCode_206 ?_
  refine J_aload_n Z.1 0 dX13_readCode_207 rfl rfl ?_
  refine J_get (v := va_rf (hR h this 19)) Z.1 dX13_readCode_208 fl_X13_31 t0 rfl ?_
  refine J_tr (fun r2 er2 => ?_)
  replace hf := lt_i hf r2 er2
  refine J_sipush Z.1 (v := 989) (by decide) dX13_readCode_211 ?_
  replace hf := nn_i hf
  obtain ⟨a2, rfl, hf⟩ := hf
  replace hf := tg_i hf
  obtain ⟨t3, hf⟩ := hf
  replace hf := ix_i hf
  obtain ⟨i4, hf⟩ := hf
  refine J_iaload Z.1 dX13_readCode_214 t3 i4 ?_
  replace hf := nn_i hf
  obtain ⟨a1, rfl, hf⟩ := hf
  replace hf := tg_i hf
  obtain ⟨t5, hf⟩ := hf
  replace hf := ix_i hf
  obtain ⟨i6, hf⟩ := hf
  refine J_iastore Z.1 dX13_readCode_215 t5 i6 ?_
  refine J_th (fun h7 eh7 => ?_)
  replace hf := lt_i hf h7 eh7
  cases hf
  exact J_vret Z.1 Z.2.2.2.2.2 dX13_readCode_216
def pX13_readCode_o_b196 (g : MT) (fO : CT → Nat → Int32 → Option CT) (this : Nat) (p1 : Int32) (l3 : Int32) (s0 : Nat) (s1 : Int32) (h : CT) : Option CT := tg g s0 12 (bd (pX13_must g h s0 s1) fun h2 => (pX13_readCode_o_b199 g fO this p1  l3 h2))
set_option maxRecDepth 10000 in
set_option maxHeartbeats 4000000 in
theorem pX13_readCode_o_b196_ok {X : Cx} {G : Gx} {dk : Nat} {g : MT} {h0 : CT} {this : Nat} {p1 : Int32} (Z : Zx X G cX13_readCode RX13 4 dk none none g h0) (hK : 6 ≤ dk) {fO : CT → Nat → Int32 → Option CT} {KO : Nat} (hO : ∀ (d : Nat), KO ≤ d → ∀ (h : CT) (this : Nat) (p1 : Int32) (h1 : CT), fO h this p1 = some h1 → Ctr G d yX13_readCode cX13_readCode 4 none [va_rf (some this), .int p1] g h none g h1) (hKO : KO + 1 ≤ dk) (t0 : gT g this = 12) (l3 : Int32) (s0 : Nat) (s1 : Int32) (h : CT) (hf : pX13_readCode_o_b196 g fO this p1 l3 s0 s1 h = some h0) : J X g h 196 [(0, va_rf (some this)), (3, .int l3)] [.int s1, va_rf (some s0)] := by
  unfold pX13_readCode_o_b196 at hf
  replace hf := tg_i hf
  obtain ⟨t1, hf⟩ := hf
  replace hf := bd_i hf
  obtain ⟨h2, q3, hf⟩ := hf
  refine J_callV (ci := 11) (as := [.int s1]) (rest := []) (sy := []) Z.1 dX13_readCode_196 cw_X13_214 (pX13_must_ok G (dk - 1) (by omega) q3) rfl rfl t1 (zG Z) rfl (by decide) (zF Z (by omega)) (zO Z (by omega) (by decide)) (zM _) Z.2.1 Z.2.1 rfl rfl ?_
  exact pX13_readCode_o_b199_ok Z hK hO hKO t0  _ _ hf
def pX13_readCode_o_b168 (g : MT) (fO : CT → Nat → Int32 → Option CT) (this : Nat) (p1 : Int32) (l2 : Int32) (l3 : Int32) (h : CT) : Option CT := if l2 = 25 then bd (pX13_isEnd g h this) fun x2 => (bd (pX13_must g h this x2) fun h4 => (if (hI h4 this 14) = 3 then pX13_readCode_o_b196 g fO this p1  l3 this 1 h4 else pX13_readCode_o_b196 g fO this p1  l3 this 0 h4)) else pX13_readCode_o_b199 g fO this p1  l3 h
set_option maxRecDepth 10000 in
set_option maxHeartbeats 4000000 in
theorem pX13_readCode_o_b168_ok {X : Cx} {G : Gx} {dk : Nat} {g : MT} {h0 : CT} {this : Nat} {p1 : Int32} (Z : Zx X G cX13_readCode RX13 4 dk none none g h0) (hK : 6 ≤ dk) {fO : CT → Nat → Int32 → Option CT} {KO : Nat} (hO : ∀ (d : Nat), KO ≤ d → ∀ (h : CT) (this : Nat) (p1 : Int32) (h1 : CT), fO h this p1 = some h1 → Ctr G d yX13_readCode cX13_readCode 4 none [va_rf (some this), .int p1] g h none g h1) (hKO : KO + 1 ≤ dk) (t0 : gT g this = 12) (l2 : Int32) (l3 : Int32) (h : CT) (hf : pX13_readCode_o_b168 g fO this p1 l2 l3 h = some h0) : J X g h 168 [(0, va_rf (some this)), (2, .int l2), (3, .int l3)] [] := by
  unfold pX13_readCode_o_b168 at hf
  refine J_iload_n Z.1 1 dX13_readCode_168 rfl rfl ?_
  refine J_bipush Z.1 (v := 25) (by decide) dX13_readCode_169 ?_
  refine J_icmp_ne Z.1 199 dX13_readCode_171 (by decide) (fun c1 => ?_) (fun c1 => ?_)
  · rw [if_neg c1] at hf
    refine J_lv [0, 2] rfl ?_
    exact pX13_readCode_o_b199_ok Z hK hO hKO t0  _ _ hf
  · rw [if_pos c1] at hf
    refine J_aload_n Z.1 0 dX13_readCode_174 rfl rfl ?_
    refine J_aload_n Z.1 0 dX13_readCode_175 rfl rfl ?_
    replace hf := bd_i hf
    obtain ⟨x2, q3, hf⟩ := hf
    refine J_callV (ci := 11) (as := []) (rest := [va_rf (some this)]) (sy := [.int x2, va_rf (some this)]) Z.1 dX13_readCode_176 cw_X13_262 (pX13_isEnd_ok G (dk - 1) (by omega) q3) rfl rfl t0 (zG Z) rfl (by simp [cat_i, cat_l, cat_d, cat_rf]) (zF Z (by omega)) (zO Z (by omega) (by decide)) (zM _) Z.2.1 Z.2.1 rfl rfl ?_
    replace hf := bd_i hf
    obtain ⟨h4, q5, hf⟩ := hf
    refine J_callV (ci := 11) (as := [.int x2]) (rest := []) (sy := []) Z.1 dX13_readCode_179 cw_X13_214 (pX13_must_ok G (dk - 1) (by omega) q5) rfl rfl t0 (zG Z) rfl (by decide) (zF Z (by omega)) (zO Z (by omega) (by decide)) (zM _) Z.2.1 Z.2.1 rfl rfl ?_
    refine J_aload_n Z.1 0 dX13_readCode_182 rfl rfl ?_
    refine J_aload_n Z.1 0 dX13_readCode_183 rfl rfl ?_
    refine J_get (v := .int (hI h4 this 14)) Z.1 dX13_readCode_184 fl_X13_142 t0 rfl ?_
    refine J_iconst Z.1 (v := 3) (by decide) dX13_readCode_187 ?_
    refine J_icmp_ne Z.1 195 dX13_readCode_188 (by decide) (fun c6 => ?_) (fun c6 => ?_)
    · rw [if_neg c6] at hf
      refine J_iconst Z.1 (v := 0) (by decide) dX13_readCode_195 ?_
      refine J_lv [0, 2] rfl ?_
      exact pX13_readCode_o_b196_ok Z hK hO hKO t0  _ _ _ _ hf
    · rw [if_pos c6] at hf
      refine J_iconst Z.1 (v := 1) (by decide) dX13_readCode_191 ?_
      refine J_goto Z.1 196 dX13_readCode_192 (by decide) ?_
      refine J_lv [0, 2] rfl ?_
      exact pX13_readCode_o_b196_ok Z hK hO hKO t0  _ _ _ _ hf
def pX13_readCode_o_b140 (g : MT) (fO : CT → Nat → Int32 → Option CT) (this : Nat) (p1 : Int32) (k140 : Int32 → Int32 → CT → Option CT) (l2 : Int32) (l3 : Int32) (h : CT) : Option CT := if l2 = 25 then if (hI h this 12) = 0 then bd (pX13_isEnd g h this) fun x3 => (if x3 = 0 then bd (fO h this 1) fun h6 => (k140 l2 l3 h6) else pX13_readCode_o_b168 g fO this p1  l2 l3 h) else pX13_readCode_o_b168 g fO this p1  l2 l3 h else pX13_readCode_o_b168 g fO this p1  l2 l3 h
set_option maxRecDepth 10000 in
set_option maxHeartbeats 4000000 in
theorem pX13_readCode_o_b140_ok {X : Cx} {G : Gx} {dk : Nat} {g : MT} {h0 : CT} {this : Nat} {p1 : Int32} {k140 : Int32 → Int32 → CT → Option CT} (Z : Zx X G cX13_readCode RX13 4 dk none none g h0) (hK : 6 ≤ dk) {fO : CT → Nat → Int32 → Option CT} {KO : Nat} (hO : ∀ (d : Nat), KO ≤ d → ∀ (h : CT) (this : Nat) (p1 : Int32) (h1 : CT), fO h this p1 = some h1 → Ctr G d yX13_readCode cX13_readCode 4 none [va_rf (some this), .int p1] g h none g h1) (hKO : KO + 1 ≤ dk) (t0 : gT g this = 12) (hk140 : ∀ (l2 : Int32) (l3 : Int32) (h : CT), k140 l2 l3 h = some h0 → J X g h 140 [(0, va_rf (some this)), (2, .int l2), (3, .int l3)] []) (l2 : Int32) (l3 : Int32) (h : CT) (hf : pX13_readCode_o_b140 g fO this p1 k140 l2 l3 h = some h0) : J X g h 140 [(0, va_rf (some this)), (2, .int l2), (3, .int l3)] [] := by
  unfold pX13_readCode_o_b140 at hf
  refine J_iload_n Z.1 1 dX13_readCode_140 rfl rfl ?_
  refine J_bipush Z.1 (v := 25) (by decide) dX13_readCode_141 ?_
  refine J_icmp_ne Z.1 168 dX13_readCode_143 (by decide) (fun c1 => ?_) (fun c1 => ?_)
  · rw [if_neg c1] at hf
    exact pX13_readCode_o_b168_ok Z hK hO hKO t0  _ _ _ hf
  · rw [if_pos c1] at hf
    refine J_aload_n Z.1 0 dX13_readCode_146 rfl rfl ?_
    refine J_get (v := .int (hI h this 12)) Z.1 dX13_readCode_147 fl_X13_195 t0 rfl ?_
    refine J_if_ne Z.1 168 dX13_readCode_150 (by decide) (fun c2 => ?_) (fun c2 => ?_)
    · rw [if_neg c2] at hf
      exact pX13_readCode_o_b168_ok Z hK hO hKO t0  _ _ _ hf
    · rw [if_pos c2] at hf
      refine J_aload_n Z.1 0 dX13_readCode_153 rfl rfl ?_
      replace hf := bd_i hf
      obtain ⟨x3, q4, hf⟩ := hf
      refine J_callV (ci := 11) (as := []) (rest := []) (sy := [.int x3]) Z.1 dX13_readCode_154 cw_X13_262 (pX13_isEnd_ok G (dk - 1) (by omega) q4) rfl rfl t0 (zG Z) rfl (by decide) (zF Z (by omega)) (zO Z (by omega) (by decide)) (zM _) Z.2.1 Z.2.1 rfl rfl ?_
      refine J_if_ne Z.1 168 dX13_readCode_157 (by decide) (fun c5 => ?_) (fun c5 => ?_)
      · rw [if_neg c5] at hf
        exact pX13_readCode_o_b168_ok Z hK hO hKO t0  _ _ _ hf
      · rw [if_pos c5] at hf
        refine J_aload_n Z.1 0 dX13_readCode_160 rfl rfl ?_
        refine J_iconst Z.1 (v := 1) (by decide) dX13_readCode_161 ?_
        replace hf := bd_i hf
        obtain ⟨h6, q7, hf⟩ := hf
        refine J_callV (ci := 11) (as := [.int 1]) (rest := []) (sy := []) Z.1 dX13_readCode_162 cw_X13_265 (hO (dk - 1) (by omega) _ _ _ _ q7) rfl rfl t0 (zG Z) rfl (by decide) (zF Z (by omega)) (zO Z (by omega) (by decide)) (zM _) Z.2.1 Z.2.1 rfl rfl ?_
        refine J_goto Z.1 140 dX13_readCode_165 (by decide) ?_
        exact hk140 _ _ _ hf
def pX13_readCode_o_l140 (g : MT) (fO : CT → Nat → Int32 → Option CT) (this : Nat) (p1 : Int32) : Nat → Int32 → Int32 → CT → Option CT
  | 0, _, _, _ => none
  | n + 1, l2, l3, h => pX13_readCode_o_b140 g fO this p1 (pX13_readCode_o_l140 g fO this p1 n) l2 l3 h
theorem pX13_readCode_o_l140_ok {X : Cx} {G : Gx} {dk : Nat} {g : MT} {h0 : CT} {this : Nat} {p1 : Int32} (Z : Zx X G cX13_readCode RX13 4 dk none none g h0) (hK : 6 ≤ dk) {fO : CT → Nat → Int32 → Option CT} {KO : Nat} (hO : ∀ (d : Nat), KO ≤ d → ∀ (h : CT) (this : Nat) (p1 : Int32) (h1 : CT), fO h this p1 = some h1 → Ctr G d yX13_readCode cX13_readCode 4 none [va_rf (some this), .int p1] g h none g h1) (hKO : KO + 1 ≤ dk) (t0 : gT g this = 12) : ∀ (n : Nat) (l2 : Int32) (l3 : Int32) (h : CT), pX13_readCode_o_l140 g fO this p1 n l2 l3 h = some h0 → J X g h 140 [(0, va_rf (some this)), (2, .int l2), (3, .int l3)] [] := by
  intro n
  induction n with
  | zero => intro l2 l3 h hf; cases hf
  | succ n ih => intro l2 l3 h hf; exact pX13_readCode_o_b140_ok Z hK hO hKO t0 ih l2 l3 h hf
def pX13_readCode_o_b137 (g : MT) (fO : CT → Nat → Int32 → Option CT) (this : Nat) (p1 : Int32) (l2 : Int32) (l3 : Int32) (s0 : Nat) (s1 : Int32) (h : CT) : Option CT := tg g s0 12 (bd (pX13_must g h s0 s1) fun h2 => (pX13_readCode_o_l140 g fO this p1  FUEL l2 l3 h2))
set_option maxRecDepth 10000 in
set_option maxHeartbeats 4000000 in
theorem pX13_readCode_o_b137_ok {X : Cx} {G : Gx} {dk : Nat} {g : MT} {h0 : CT} {this : Nat} {p1 : Int32} (Z : Zx X G cX13_readCode RX13 4 dk none none g h0) (hK : 6 ≤ dk) {fO : CT → Nat → Int32 → Option CT} {KO : Nat} (hO : ∀ (d : Nat), KO ≤ d → ∀ (h : CT) (this : Nat) (p1 : Int32) (h1 : CT), fO h this p1 = some h1 → Ctr G d yX13_readCode cX13_readCode 4 none [va_rf (some this), .int p1] g h none g h1) (hKO : KO + 1 ≤ dk) (t0 : gT g this = 12) (l2 : Int32) (l3 : Int32) (s0 : Nat) (s1 : Int32) (h : CT) (hf : pX13_readCode_o_b137 g fO this p1 l2 l3 s0 s1 h = some h0) : J X g h 137 [(0, va_rf (some this)), (2, .int l2), (3, .int l3)] [.int s1, va_rf (some s0)] := by
  unfold pX13_readCode_o_b137 at hf
  replace hf := tg_i hf
  obtain ⟨t1, hf⟩ := hf
  replace hf := bd_i hf
  obtain ⟨h2, q3, hf⟩ := hf
  refine J_callV (ci := 11) (as := [.int s1]) (rest := []) (sy := []) Z.1 dX13_readCode_137 cw_X13_214 (pX13_must_ok G (dk - 1) (by omega) q3) rfl rfl t1 (zG Z) rfl (by decide) (zF Z (by omega)) (zO Z (by omega) (by decide)) (zM _) Z.2.1 Z.2.1 rfl rfl ?_
  exact pX13_readCode_o_l140_ok Z hK hO hKO t0  FUEL _ _ _ hf
def pX13_readCode_o_b70 (g : MT) (fO : CT → Nat → Int32 → Option CT) (this : Nat) (p1 : Int32) (l2 : Int32) (h : CT) : Option CT := if (hI h this 12) ≤ 0 then lt (hR h this 19) fun r2 => (nn r2 fun a2 => (tg g a2 20 (ix (gL g a2) 989 (lt (990 + (8 * (hI h a2 (Int32.toNatClampNeg 989)))) fun x5 => (lt (hR h this 19) fun r6 => (nn r6 fun a6 => (tg g a6 20 (ix (gL g a6) 989 (ix (gL g a6) 989 (lt (sI h a6 (Int32.toNatClampNeg 989) ((hI h a6 (Int32.toNatClampNeg 989)) + 1)) fun h10 => (bd (pX13_advance g h10 this) fun h11 => (lt (hR h11 this 19) fun r13 => (nn r13 fun a13 => (tg g a13 20 (ix (gL g a13) x5 (lt (sI h11 a13 (Int32.toNatClampNeg x5) l2) fun h16 => (bd (pX13_readRest g h16 this x5 l2) fun h17 => (if (hI h17 this 14) = 3 then pX13_readCode_o_b137 g fO this p1  l2 x5 this 1 h17 else pX13_readCode_o_b137 g fO this p1  l2 x5 this 0 h17)))))))))))))))))) else some h
set_option maxRecDepth 10000 in
set_option maxHeartbeats 4000000 in
theorem pX13_readCode_o_b70_ok {X : Cx} {G : Gx} {dk : Nat} {g : MT} {h0 : CT} {this : Nat} {p1 : Int32} (Z : Zx X G cX13_readCode RX13 4 dk none none g h0) (hK : 6 ≤ dk) {fO : CT → Nat → Int32 → Option CT} {KO : Nat} (hO : ∀ (d : Nat), KO ≤ d → ∀ (h : CT) (this : Nat) (p1 : Int32) (h1 : CT), fO h this p1 = some h1 → Ctr G d yX13_readCode cX13_readCode 4 none [va_rf (some this), .int p1] g h none g h1) (hKO : KO + 1 ≤ dk) (t0 : gT g this = 12) (l2 : Int32) (h : CT) (hf : pX13_readCode_o_b70 g fO this p1 l2 h = some h0) : J X g h 70 [(0, va_rf (some this)), (2, .int l2)] [] := by
  unfold pX13_readCode_o_b70 at hf
  refine J_aload_n Z.1 0 dX13_readCode_70 rfl rfl ?_
  refine J_get (v := .int (hI h this 12)) Z.1 dX13_readCode_71 fl_X13_195 t0 rfl ?_
  refine J_if_le Z.1 78 dX13_readCode_74 (by decide) (fun c1 => ?_) (fun c1 => ?_)
  · rw [if_pos c1] at hf
    refine J_sipush Z.1 (v := 990) (by decide) dX13_readCode_78 ?_
    refine J_bipush Z.1 (v := 8) (by decide) dX13_readCode_81 ?_
    refine J_aload_n Z.1 0 dX13_readCode_83 rfl rfl ?_
    refine J_get (v := va_rf (hR h this 19)) Z.1 dX13_readCode_84 fl_X13_31 t0 rfl ?_
    refine J_tr (fun r2 er2 => ?_)
    replace hf := lt_i hf r2 er2
    refine J_sipush Z.1 (v := 989) (by decide) dX13_readCode_87 ?_
    replace hf := nn_i hf
    obtain ⟨a2, rfl, hf⟩ := hf
    replace hf := tg_i hf
    obtain ⟨t3, hf⟩ := hf
    replace hf := ix_i hf
    obtain ⟨i4, hf⟩ := hf
    refine J_iaload Z.1 dX13_readCode_90 t3 i4 ?_
    refine J_imul Z.1 dX13_readCode_91 ?_
    refine J_iadd Z.1 dX13_readCode_92 ?_
    refine J_ti (fun x5 ex5 => ?_)
    replace hf := lt_i hf x5 ex5
    refine J_istore_n Z.1 (lv2 := [(3, .int x5), (0, va_rf (some this)), (2, .int l2)]) dX13_readCode_93 rfl (zL Z (by decide)) rfl ?_
    refine J_aload_n Z.1 1 dX13_readCode_94 rfl rfl ?_
    refine J_get (v := va_rf (hR h this 19)) Z.1 dX13_readCode_95 fl_X13_31 t0 rfl ?_
    refine J_tr (fun r6 er6 => ?_)
    replace hf := lt_i hf r6 er6
    refine J_sipush Z.1 (v := 989) (by decide) dX13_readCode_98 ?_
    refine J_dup2 Z.1 dX13_readCode_101 (by simp [cat_i, cat_l, cat_d, cat_rf]) (by simp [cat_i, cat_l, cat_d, cat_rf]) ?_
    replace hf := nn_i hf
    obtain ⟨a6, rfl, hf⟩ := hf
    replace hf := tg_i hf
    obtain ⟨t7, hf⟩ := hf
    replace hf := ix_i hf
    obtain ⟨i8, hf⟩ := hf
    refine J_iaload Z.1 dX13_readCode_102 t7 i8 ?_
    refine J_iconst Z.1 (v := 1) (by decide) dX13_readCode_103 ?_
    refine J_iadd Z.1 dX13_readCode_104 ?_
    replace hf := ix_i hf
    obtain ⟨i9, hf⟩ := hf
    refine J_iastore Z.1 dX13_readCode_105 t7 i9 ?_
    refine J_th (fun h10 eh10 => ?_)
    replace hf := lt_i hf h10 eh10
    refine J_aload_n Z.1 1 dX13_readCode_106 rfl rfl ?_
    replace hf := bd_i hf
    obtain ⟨h11, q12, hf⟩ := hf
    refine J_callV (ci := 11) (as := []) (rest := []) (sy := []) Z.1 dX13_readCode_107 cw_X13_205 (pX13_advance_ok G (dk - 1) (by omega) q12) rfl rfl t0 (zG Z) rfl (by decide) (zF Z (by omega)) (zO Z (by omega) (by decide)) (zM _) Z.2.1 Z.2.1 rfl rfl ?_
    refine J_aload_n Z.1 1 dX13_readCode_110 rfl rfl ?_
    refine J_get (v := va_rf (hR h11 this 19)) Z.1 dX13_readCode_111 fl_X13_31 t0 rfl ?_
    refine J_tr (fun r13 er13 => ?_)
    replace hf := lt_i hf r13 er13
    refine J_iload_n Z.1 0 dX13_readCode_114 rfl rfl ?_
    refine J_iload_n Z.1 2 dX13_readCode_115 rfl rfl ?_
    replace hf := nn_i hf
    obtain ⟨a13, rfl, hf⟩ := hf
    replace hf := tg_i hf
    obtain ⟨t14, hf⟩ := hf
    replace hf := ix_i hf
    obtain ⟨i15, hf⟩ := hf
    refine J_iastore Z.1 dX13_readCode_116 t14 i15 ?_
    refine J_th (fun h16 eh16 => ?_)
    replace hf := lt_i hf h16 eh16
    refine J_aload_n Z.1 1 dX13_readCode_117 rfl rfl ?_
    refine J_iload_n Z.1 0 dX13_readCode_118 rfl rfl ?_
    refine J_iload_n Z.1 2 dX13_readCode_119 rfl rfl ?_
    replace hf := bd_i hf
    obtain ⟨h17, q18, hf⟩ := hf
    refine J_callV (ci := 11) (as := [.int x5, .int l2]) (rest := []) (sy := []) Z.1 dX13_readCode_120 cw_X13_259 (pX13_readRest_ok G (dk - 1) (by omega) q18) rfl rfl t0 (zG Z) rfl (by decide) (zF Z (by omega)) (zO Z (by omega) (by decide)) (zM _) Z.2.1 Z.2.1 rfl rfl ?_
    refine J_aload_n Z.1 1 dX13_readCode_123 rfl rfl ?_
    refine J_aload_n Z.1 1 dX13_readCode_124 rfl rfl ?_
    refine J_get (v := .int (hI h17 this 14)) Z.1 dX13_readCode_125 fl_X13_142 t0 rfl ?_
    refine J_iconst Z.1 (v := 3) (by decide) dX13_readCode_128 ?_
    refine J_icmp_ne Z.1 136 dX13_readCode_129 (by decide) (fun c19 => ?_) (fun c19 => ?_)
    · rw [if_neg c19] at hf
      refine J_iconst Z.1 (v := 0) (by decide) dX13_readCode_136 ?_
      refine J_lv [1, 2, 0] rfl ?_
      exact pX13_readCode_o_b137_ok Z hK hO hKO t0  _ _ _ _ _ hf
    · rw [if_pos c19] at hf
      refine J_iconst Z.1 (v := 1) (by decide) dX13_readCode_132 ?_
      refine J_goto Z.1 137 dX13_readCode_133 (by decide) ?_
      refine J_lv [1, 2, 0] rfl ?_
      exact pX13_readCode_o_b137_ok Z hK hO hKO t0  _ _ _ _ _ hf
  · rw [if_neg c1] at hf
    cases hf
    exact J_vret Z.1 Z.2.2.2.2.2 dX13_readCode_77
def pX13_readCode_o_b43 (g : MT) (fO : CT → Nat → Int32 → Option CT) (this : Nat) (p1 : Int32) (l2 : Int32) (h : CT) : Option CT := if (hI h this 12) = 0 then if l2 = 25 then if p1 = 0 then pX13_readCode_o_b70 g fO this p1  l2 h else bd (pX13_fail g h this 7 (hI h this 15)) fun h4 => (pX13_readCode_o_b70 g fO this p1  l2 h4) else pX13_readCode_o_b70 g fO this p1  l2 h else pX13_readCode_o_b70 g fO this p1  l2 h
set_option maxRecDepth 10000 in
set_option maxHeartbeats 4000000 in
theorem pX13_readCode_o_b43_ok {X : Cx} {G : Gx} {dk : Nat} {g : MT} {h0 : CT} {this : Nat} {p1 : Int32} (Z : Zx X G cX13_readCode RX13 4 dk none none g h0) (hK : 6 ≤ dk) {fO : CT → Nat → Int32 → Option CT} {KO : Nat} (hO : ∀ (d : Nat), KO ≤ d → ∀ (h : CT) (this : Nat) (p1 : Int32) (h1 : CT), fO h this p1 = some h1 → Ctr G d yX13_readCode cX13_readCode 4 none [va_rf (some this), .int p1] g h none g h1) (hKO : KO + 1 ≤ dk) (t0 : gT g this = 12) (l2 : Int32) (h : CT) (hf : pX13_readCode_o_b43 g fO this p1 l2 h = some h0) : J X g h 43 [(0, va_rf (some this)), (1, .int p1), (2, .int l2)] [] := by
  unfold pX13_readCode_o_b43 at hf
  refine J_aload_n Z.1 0 dX13_readCode_43 rfl rfl ?_
  refine J_get (v := .int (hI h this 12)) Z.1 dX13_readCode_44 fl_X13_195 t0 rfl ?_
  refine J_if_ne Z.1 70 dX13_readCode_47 (by decide) (fun c1 => ?_) (fun c1 => ?_)
  · rw [if_neg c1] at hf
    refine J_lv [0, 2] rfl ?_
    exact pX13_readCode_o_b70_ok Z hK hO hKO t0  _ _ hf
  · rw [if_pos c1] at hf
    refine J_iload_n Z.1 2 dX13_readCode_50 rfl rfl ?_
    refine J_bipush Z.1 (v := 25) (by decide) dX13_readCode_51 ?_
    refine J_icmp_ne Z.1 70 dX13_readCode_53 (by decide) (fun c2 => ?_) (fun c2 => ?_)
    · rw [if_neg c2] at hf
      refine J_lv [0, 2] rfl ?_
      exact pX13_readCode_o_b70_ok Z hK hO hKO t0  _ _ hf
    · rw [if_pos c2] at hf
      refine J_iload_n Z.1 1 dX13_readCode_56 rfl rfl ?_
      refine J_if_eq Z.1 70 dX13_readCode_57 (by decide) (fun c3 => ?_) (fun c3 => ?_)
      · rw [if_pos c3] at hf
        refine J_lv [0, 2] rfl ?_
        exact pX13_readCode_o_b70_ok Z hK hO hKO t0  _ _ hf
      · rw [if_neg c3] at hf
        refine J_aload_n Z.1 0 dX13_readCode_60 rfl rfl ?_
        refine J_bipush Z.1 (v := 7) (by decide) dX13_readCode_61 ?_
        refine J_aload_n Z.1 0 dX13_readCode_63 rfl rfl ?_
        refine J_get (v := .int (hI h this 15)) Z.1 dX13_readCode_64 fl_X13_136 t0 rfl ?_
        replace hf := bd_i hf
        obtain ⟨h4, q5, hf⟩ := hf
        refine J_callV (ci := 11) (as := [.int 7, .int (hI h this 15)]) (rest := []) (sy := []) Z.1 dX13_readCode_67 cw_X13_201 (pX13_fail_ok G (dk - 1) (by omega) q5) rfl rfl t0 (zG Z) rfl (by decide) (zF Z (by omega)) (zO Z (by omega) (by decide)) (zM _) Z.2.1 Z.2.1 rfl rfl ?_
        refine J_lv [0, 2] rfl ?_
        exact pX13_readCode_o_b70_ok Z hK hO hKO t0  _ _ hf
def pX13_readCode_o_b13 (g : MT) (fO : CT → Nat → Int32 → Option CT) (this : Nat) (p1 : Int32) (l2 : Int32) (h : CT) : Option CT := if (hI h this 12) = 0 then lt (hR h this 19) fun r2 => (nn r2 fun a2 => (tg g a2 20 (ix (gL g a2) 989 (if (hI h a2 (Int32.toNatClampNeg 989)) = 30 then bd (pX13_fail g h this 6 (hI h this 15)) fun h6 => (pX13_readCode_o_b43 g fO this p1  l2 h6) else pX13_readCode_o_b43 g fO this p1  l2 h)))) else pX13_readCode_o_b43 g fO this p1  l2 h
set_option maxRecDepth 10000 in
set_option maxHeartbeats 4000000 in
theorem pX13_readCode_o_b13_ok {X : Cx} {G : Gx} {dk : Nat} {g : MT} {h0 : CT} {this : Nat} {p1 : Int32} (Z : Zx X G cX13_readCode RX13 4 dk none none g h0) (hK : 6 ≤ dk) {fO : CT → Nat → Int32 → Option CT} {KO : Nat} (hO : ∀ (d : Nat), KO ≤ d → ∀ (h : CT) (this : Nat) (p1 : Int32) (h1 : CT), fO h this p1 = some h1 → Ctr G d yX13_readCode cX13_readCode 4 none [va_rf (some this), .int p1] g h none g h1) (hKO : KO + 1 ≤ dk) (t0 : gT g this = 12) (l2 : Int32) (h : CT) (hf : pX13_readCode_o_b13 g fO this p1 l2 h = some h0) : J X g h 13 [(0, va_rf (some this)), (1, .int p1), (2, .int l2)] [] := by
  unfold pX13_readCode_o_b13 at hf
  refine J_aload_n Z.1 0 dX13_readCode_13 rfl rfl ?_
  refine J_get (v := .int (hI h this 12)) Z.1 dX13_readCode_14 fl_X13_195 t0 rfl ?_
  refine J_if_ne Z.1 43 dX13_readCode_17 (by decide) (fun c1 => ?_) (fun c1 => ?_)
  · rw [if_neg c1] at hf
    exact pX13_readCode_o_b43_ok Z hK hO hKO t0  _ _ hf
  · rw [if_pos c1] at hf
    refine J_aload_n Z.1 0 dX13_readCode_20 rfl rfl ?_
    refine J_get (v := va_rf (hR h this 19)) Z.1 dX13_readCode_21 fl_X13_31 t0 rfl ?_
    refine J_tr (fun r2 er2 => ?_)
    replace hf := lt_i hf r2 er2
    refine J_sipush Z.1 (v := 989) (by decide) dX13_readCode_24 ?_
    replace hf := nn_i hf
    obtain ⟨a2, rfl, hf⟩ := hf
    replace hf := tg_i hf
    obtain ⟨t3, hf⟩ := hf
    replace hf := ix_i hf
    obtain ⟨i4, hf⟩ := hf
    refine J_iaload Z.1 dX13_readCode_27 t3 i4 ?_
    refine J_bipush Z.1 (v := 30) (by decide) dX13_readCode_28 ?_
    refine J_icmp_ne Z.1 43 dX13_readCode_30 (by decide) (fun c5 => ?_) (fun c5 => ?_)
    · rw [if_neg c5] at hf
      exact pX13_readCode_o_b43_ok Z hK hO hKO t0  _ _ hf
    · rw [if_pos c5] at hf
      refine J_aload_n Z.1 0 dX13_readCode_33 rfl rfl ?_
      refine J_bipush Z.1 (v := 6) (by decide) dX13_readCode_34 ?_
      refine J_aload_n Z.1 0 dX13_readCode_36 rfl rfl ?_
      refine J_get (v := .int (hI h this 15)) Z.1 dX13_readCode_37 fl_X13_136 t0 rfl ?_
      replace hf := bd_i hf
      obtain ⟨h6, q7, hf⟩ := hf
      refine J_callV (ci := 11) (as := [.int 6, .int (hI h this 15)]) (rest := []) (sy := []) Z.1 dX13_readCode_40 cw_X13_201 (pX13_fail_ok G (dk - 1) (by omega) q7) rfl rfl t0 (zG Z) rfl (by decide) (zF Z (by omega)) (zO Z (by omega) (by decide)) (zM _) Z.2.1 Z.2.1 rfl rfl ?_
      exact pX13_readCode_o_b43_ok Z hK hO hKO t0  _ _ hf
def pX13_readCode_o (g : MT) (fO : CT → Nat → Int32 → Option CT) (h : CT) (this : Nat) (p1 : Int32) : Option CT := tg g this 12 (bd (pX13_codeWord g h this) fun x1 => (if 0 ≤ x1 then pX13_readCode_o_b13 g fO this p1  x1 h else bd (pX13_amiss g h this) fun h4 => (pX13_readCode_o_b13 g fO this p1  x1 h4)))
set_option maxRecDepth 10000 in
set_option maxHeartbeats 4000000 in
theorem pX13_readCode_o_ok (G : Gx) (dk : Nat) (hK : 6 ≤ dk) {g : MT} {fO : CT → Nat → Int32 → Option CT} {KO : Nat} (hO : ∀ (d : Nat), KO ≤ d → ∀ (h : CT) (this : Nat) (p1 : Int32) (h1 : CT), fO h this p1 = some h1 → Ctr G d yX13_readCode cX13_readCode 4 none [va_rf (some this), .int p1] g h none g h1) (hKO : KO + 1 ≤ dk) {h h0 : CT} {this : Nat} {p1 : Int32} (hf : pX13_readCode_o g fO h this p1 = some h0) : Ctr G dk yX13_readCode cX13_readCode 4 none [va_rf (some this), .int p1] g h none g h0 := by
  refine Ctr.ofZ (lv := [(0, va_rf (some this)), (1, .int p1)]) (by decide +kernel) (by simp [cat_i, cat_l, cat_d, cat_rf]) rfl fun X Z => ?_
  unfold pX13_readCode_o at hf
  replace hf := tg_i hf
  obtain ⟨t0, hf⟩ := hf
  refine J_aload_n Z.1 0 dX13_readCode_0 rfl rfl ?_
  replace hf := bd_i hf
  obtain ⟨x1, q2, hf⟩ := hf
  refine J_callV (ci := 11) (as := []) (rest := []) (sy := [.int x1]) Z.1 dX13_readCode_1 cw_X13_256 (pX13_codeWord_ok G (dk - 1) (by omega) q2) rfl rfl t0 (zG Z) rfl (by decide) (zF Z (by omega)) (zO Z (by omega) (by decide)) (zM _) Z.2.1 Z.2.1 rfl rfl ?_
  refine J_istore_n Z.1 (lv2 := [(2, .int x1), (0, va_rf (some this)), (1, .int p1)]) dX13_readCode_4 rfl (zL Z (by decide)) rfl ?_
  refine J_iload_n Z.1 0 dX13_readCode_5 rfl rfl ?_
  refine J_if_ge Z.1 13 dX13_readCode_6 (by decide) (fun c3 => ?_) (fun c3 => ?_)
  · rw [if_pos c3] at hf
    refine J_lv [1, 2, 0] rfl ?_
    exact pX13_readCode_o_b13_ok Z hK hO hKO t0  _ _ hf
  · rw [if_neg c3] at hf
    refine J_aload_n Z.1 1 dX13_readCode_9 rfl rfl ?_
    replace hf := bd_i hf
    obtain ⟨h4, q5, hf⟩ := hf
    refine J_callV (ci := 11) (as := []) (rest := []) (sy := []) Z.1 dX13_readCode_10 cw_X13_208 (pX13_amiss_ok G (dk - 1) (by omega) q5) rfl rfl t0 (zG Z) rfl (by decide) (zF Z (by omega)) (zO Z (by omega) (by decide)) (zM _) Z.2.1 Z.2.1 rfl rfl ?_
    refine J_lv [1, 2, 0] rfl ?_
    exact pX13_readCode_o_b13_ok Z hK hO hKO t0  _ _ hf
def pX13_readCode_r (g : MT) : Nat → CT → Nat → Int32 → Option CT
  | 0, _, _, _ => none
  | n + 1, h, this, p1 => pX13_readCode_o g (pX13_readCode_r g n) h this p1
theorem pX13_readCode_r_ok (G : Gx) {g : MT} : ∀ (n : Nat) (d : Nat), 6 + 1 * n ≤ d → ∀ (h : CT) (this : Nat) (p1 : Int32) (h0 : CT), pX13_readCode_r g n h this p1 = some h0 → Ctr G d yX13_readCode cX13_readCode 4 none [va_rf (some this), .int p1] g h none g h0 := by
  intro n
  induction n with
  | zero => intro d hd h this p1 h0 hf; cases hf
  | succ n ih => intro d hd h this p1 h0 hf; exact pX13_readCode_o_ok G d (by omega) (KO := 6 + 1 * n) ih (by omega) hf
def pX13_readCode (g : MT) (h : CT) (this : Nat) (p1 : Int32) : Option CT := pX13_readCode_r g RFUEL h this p1
theorem pX13_readCode_ok (G : Gx) (dk : Nat) (hK : 46 ≤ dk) {g : MT} {h h0 : CT} {this : Nat} {p1 : Int32} (hf : pX13_readCode g h this p1 = some h0) : Ctr G dk yX13_readCode cX13_readCode 4 none [va_rf (some this), .int p1] g h none g h0 := pX13_readCode_r_ok G RFUEL dk (by unfold RFUEL; omega) _ _ _ _ hf
theorem dX13_feed_0 : decode cX13_feed 0 = .ok (.aload_n 0, 1) := by decide +kernel
theorem dX13_feed_1 : decode cX13_feed 1 = .ok (.iconst 0, 1) := by decide +kernel
theorem dX13_feed_2 : decode cX13_feed 2 = .ok (.putfield 71, 3) := by decide +kernel
theorem dX13_feed_5 : decode cX13_feed 5 = .ok (.aload_n 0, 1) := by decide +kernel
theorem dX13_feed_6 : decode cX13_feed 6 = .ok (.getfield 225, 3) := by decide +kernel
theorem dX13_feed_9 : decode cX13_feed 9 = .ok (.bipush 20, 2) := by decide +kernel
theorem dX13_feed_11 : decode cX13_feed 11 = .ok (.iadd, 1) := by decide +kernel
theorem dX13_feed_12 : decode cX13_feed 12 = .ok (.sipush 900, 3) := by decide +kernel
theorem dX13_feed_15 : decode cX13_feed 15 = .ok (.if_icmp .le 5, 3) := by decide +kernel
theorem dX13_feed_18 : decode cX13_feed 18 = .ok (.iconst (-1), 1) := by decide +kernel
theorem dX13_feed_19 : decode cX13_feed 19 = .ok (.ireturn, 1) := by decide +kernel
theorem dX13_feed_20 : decode cX13_feed 20 = .ok (.aload_n 0, 1) := by decide +kernel
theorem dX13_feed_21 : decode cX13_feed 21 = .ok (.iload_n 1, 1) := by decide +kernel
theorem dX13_feed_22 : decode cX13_feed 22 = .ok (.invokevirtual 228, 3) := by decide +kernel
theorem dX13_feed_25 : decode cX13_feed 25 = .ok (.aload_n 0, 1) := by decide +kernel
theorem dX13_feed_26 : decode cX13_feed 26 = .ok (.iload_n 2, 1) := by decide +kernel
theorem dX13_feed_27 : decode cX13_feed 27 = .ok (.invokevirtual 228, 3) := by decide +kernel
theorem dX13_feed_30 : decode cX13_feed 30 = .ok (.aload_n 0, 1) := by decide +kernel
theorem dX13_feed_31 : decode cX13_feed 31 = .ok (.iload_n 3, 1) := by decide +kernel
theorem dX13_feed_32 : decode cX13_feed 32 = .ok (.invokevirtual 228, 3) := by decide +kernel
theorem dX13_feed_35 : decode cX13_feed 35 = .ok (.aload_n 0, 1) := by decide +kernel
theorem dX13_feed_36 : decode cX13_feed 36 = .ok (.iload 4, 2) := by decide +kernel
theorem dX13_feed_38 : decode cX13_feed 38 = .ok (.invokevirtual 228, 3) := by decide +kernel
theorem dX13_feed_41 : decode cX13_feed 41 = .ok (.aload_n 0, 1) := by decide +kernel
theorem dX13_feed_42 : decode cX13_feed 42 = .ok (.iload 5, 2) := by decide +kernel
theorem dX13_feed_44 : decode cX13_feed 44 = .ok (.invokevirtual 228, 3) := by decide +kernel
theorem dX13_feed_47 : decode cX13_feed 47 = .ok (.aload_n 0, 1) := by decide +kernel
theorem dX13_feed_48 : decode cX13_feed 48 = .ok (.getfield 225, 3) := by decide +kernel
theorem dX13_feed_51 : decode cX13_feed 51 = .ok (.ireturn, 1) := by decide +kernel
def pX13_feed (g : MT) (h : CT) (this : Nat) (p1 : Int32) (p2 : Int32) (p3 : Int32) (p4 : Int32) (p5 : Int32) : Option ((Int32) × CT) := tg g this 12 (lt (sI h this 1 0) fun h1 => (if ((hI h1 this 8) + 20) ≤ 900 then bd (pX13_lay g h1 this p1) fun h3 => (bd (pX13_lay g h3 this p2) fun h5 => (bd (pX13_lay g h5 this p3) fun h7 => (bd (pX13_lay g h7 this p4) fun h9 => (bd (pX13_lay g h9 this p5) fun h11 => (some ((hI h11 this 8), h11)))))) else some ((-1), h1)))
set_option maxRecDepth 10000 in
set_option maxHeartbeats 4000000 in
theorem pX13_feed_ok (G : Gx) (dk : Nat) (hK : 1 ≤ dk) {g : MT} {h h0 : CT} {this : Nat} {p1 : Int32} {p2 : Int32} {p3 : Int32} {p4 : Int32} {p5 : Int32} {r0 : Int32} (hf : pX13_feed g h this p1 p2 p3 p4 p5 = some (r0, h0)) : Ctr G dk yX13_feed cX13_feed 6 (some .int) [va_rf (some this), .int p1, .int p2, .int p3, .int p4, .int p5] g h (some (.int r0)) g h0 := by
  refine Ctr.ofZ (lv := [(0, va_rf (some this)), (1, .int p1), (2, .int p2), (3, .int p3), (4, .int p4), (5, .int p5)]) (by decide +kernel) (by simp [cat_i, cat_l, cat_d, cat_rf]) rfl fun X Z => ?_
  unfold pX13_feed at hf
  replace hf := tg_i hf
  obtain ⟨t0, hf⟩ := hf
  refine J_aload_n Z.1 0 dX13_feed_0 rfl rfl ?_
  refine J_iconst Z.1 (v := 0) (by decide) dX13_feed_1 ?_
  refine J_putI Z.1 dX13_feed_2 fl_X13_71 (fun q => by cases q) t0 rfl rfl (congrArg Value.int (hI_s _ _ _ _)) ?_
  refine J_th (fun h1 eh1 => ?_)
  replace hf := lt_i hf h1 eh1
  refine J_aload_n Z.1 0 dX13_feed_5 rfl rfl ?_
  refine J_get (v := .int (hI h1 this 8)) Z.1 dX13_feed_6 fl_X13_225 t0 rfl ?_
  refine J_bipush Z.1 (v := 20) (by decide) dX13_feed_9 ?_
  refine J_iadd Z.1 dX13_feed_11 ?_
  refine J_sipush Z.1 (v := 900) (by decide) dX13_feed_12 ?_
  refine J_icmp_le Z.1 20 dX13_feed_15 (by decide) (fun c2 => ?_) (fun c2 => ?_)
  · rw [if_pos c2] at hf
    refine J_aload_n Z.1 0 dX13_feed_20 rfl rfl ?_
    refine J_iload_n Z.1 1 dX13_feed_21 rfl rfl ?_
    replace hf := bd_i hf
    obtain ⟨h3, q4, hf⟩ := hf
    refine J_callV (ci := 11) (as := [.int p1]) (rest := []) (sy := []) Z.1 dX13_feed_22 cw_X13_228 (pX13_lay_ok G (dk - 1) (by omega) q4) rfl rfl t0 (zG Z) rfl (by decide) (zF Z (by omega)) (zO Z (by omega) (by decide)) (zM _) Z.2.1 Z.2.1 rfl rfl ?_
    refine J_aload_n Z.1 0 dX13_feed_25 rfl rfl ?_
    refine J_iload_n Z.1 2 dX13_feed_26 rfl rfl ?_
    replace hf := bd_i hf
    obtain ⟨h5, q6, hf⟩ := hf
    refine J_callV (ci := 11) (as := [.int p2]) (rest := []) (sy := []) Z.1 dX13_feed_27 cw_X13_228 (pX13_lay_ok G (dk - 1) (by omega) q6) rfl rfl t0 (zG Z) rfl (by decide) (zF Z (by omega)) (zO Z (by omega) (by decide)) (zM _) Z.2.1 Z.2.1 rfl rfl ?_
    refine J_aload_n Z.1 0 dX13_feed_30 rfl rfl ?_
    refine J_iload_n Z.1 3 dX13_feed_31 rfl rfl ?_
    replace hf := bd_i hf
    obtain ⟨h7, q8, hf⟩ := hf
    refine J_callV (ci := 11) (as := [.int p3]) (rest := []) (sy := []) Z.1 dX13_feed_32 cw_X13_228 (pX13_lay_ok G (dk - 1) (by omega) q8) rfl rfl t0 (zG Z) rfl (by decide) (zF Z (by omega)) (zO Z (by omega) (by decide)) (zM _) Z.2.1 Z.2.1 rfl rfl ?_
    refine J_aload_n Z.1 0 dX13_feed_35 rfl rfl ?_
    refine J_iload Z.1 4 dX13_feed_36 rfl ?_
    replace hf := bd_i hf
    obtain ⟨h9, q10, hf⟩ := hf
    refine J_callV (ci := 11) (as := [.int p4]) (rest := []) (sy := []) Z.1 dX13_feed_38 cw_X13_228 (pX13_lay_ok G (dk - 1) (by omega) q10) rfl rfl t0 (zG Z) rfl (by decide) (zF Z (by omega)) (zO Z (by omega) (by decide)) (zM _) Z.2.1 Z.2.1 rfl rfl ?_
    refine J_aload_n Z.1 0 dX13_feed_41 rfl rfl ?_
    refine J_iload Z.1 5 dX13_feed_42 rfl ?_
    replace hf := bd_i hf
    obtain ⟨h11, q12, hf⟩ := hf
    refine J_callV (ci := 11) (as := [.int p5]) (rest := []) (sy := []) Z.1 dX13_feed_44 cw_X13_228 (pX13_lay_ok G (dk - 1) (by omega) q12) rfl rfl t0 (zG Z) rfl (by decide) (zF Z (by omega)) (zO Z (by omega) (by decide)) (zM _) Z.2.1 Z.2.1 rfl rfl ?_
    refine J_aload_n Z.1 0 dX13_feed_47 rfl rfl ?_
    refine J_get (v := .int (hI h11 this 8)) Z.1 dX13_feed_48 fl_X13_225 t0 rfl ?_
    cases hf
    exact J_iret Z.1 Z.2.2.2.2.2 dX13_feed_51
  · rw [if_neg c2] at hf
    refine J_iconst Z.1 (v := (-1)) (by decide) dX13_feed_18 ?_
    cases hf
    exact J_iret Z.1 Z.2.2.2.2.2 dX13_feed_19
theorem dX13_program_0 : decode cX13_program 0 = .ok (.aload_n 0, 1) := by decide +kernel
theorem dX13_program_1 : decode cX13_program 1 = .ok (.iconst 0, 1) := by decide +kernel
theorem dX13_program_2 : decode cX13_program 2 = .ok (.putfield 71, 3) := by decide +kernel
theorem dX13_program_5 : decode cX13_program 5 = .ok (.aload_n 0, 1) := by decide +kernel
theorem dX13_program_6 : decode cX13_program 6 = .ok (.iconst 0, 1) := by decide +kernel
theorem dX13_program_7 : decode cX13_program 7 = .ok (.putfield 74, 3) := by decide +kernel
theorem dX13_program_10 : decode cX13_program 10 = .ok (.iload_n 1, 1) := by decide +kernel
theorem dX13_program_11 : decode cX13_program 11 = .ok (.i2l, 1) := by decide +kernel
theorem dX13_program_12 : decode cX13_program 12 = .ok (.lconst 0, 1) := by decide +kernel
theorem dX13_program_13 : decode cX13_program 13 = .ok (.aload_n 0, 1) := by decide +kernel
theorem dX13_program_14 : decode cX13_program 14 = .ok (.getfield 225, 3) := by decide +kernel
theorem dX13_program_17 : decode cX13_program 17 = .ok (.i2l, 1) := by decide +kernel
theorem dX13_program_18 : decode cX13_program 18 = .ok (.invokestatic 104, 3) := by decide +kernel
theorem dX13_program_21 : decode cX13_program 21 = .ok (.ifCond .ne 9, 3) := by decide +kernel
theorem dX13_program_24 : decode cX13_program 24 = .ok (.aload_n 0, 1) := by decide +kernel
theorem dX13_program_25 : decode cX13_program 25 = .ok (.iconst 5, 1) := by decide +kernel
theorem dX13_program_26 : decode cX13_program 26 = .ok (.invokevirtual 268, 3) := by decide +kernel
theorem dX13_program_29 : decode cX13_program 29 = .ok (.ireturn, 1) := by decide +kernel
theorem dX13_program_30 : decode cX13_program 30 = .ok (.aload_n 0, 1) := by decide +kernel
theorem dX13_program_31 : decode cX13_program 31 = .ok (.iload_n 1, 1) := by decide +kernel
theorem dX13_program_32 : decode cX13_program 32 = .ok (.putfield 130, 3) := by decide +kernel
theorem dX13_program_35 : decode cX13_program 35 = .ok (.aload_n 0, 1) := by decide +kernel
theorem dX13_program_36 : decode cX13_program 36 = .ok (.iconst 0, 1) := by decide +kernel
theorem dX13_program_37 : decode cX13_program 37 = .ok (.putfield 225, 3) := by decide +kernel
theorem dX13_program_40 : decode cX13_program 40 = .ok (.aload_n 0, 1) := by decide +kernel
theorem dX13_program_41 : decode cX13_program 41 = .ok (.iconst 0, 1) := by decide +kernel
theorem dX13_program_42 : decode cX13_program 42 = .ok (.putfield 133, 3) := by decide +kernel
theorem dX13_program_45 : decode cX13_program 45 = .ok (.aload_n 0, 1) := by decide +kernel
theorem dX13_program_46 : decode cX13_program 46 = .ok (.iconst 0, 1) := by decide +kernel
theorem dX13_program_47 : decode cX13_program 47 = .ok (.putfield 195, 3) := by decide +kernel
theorem dX13_program_50 : decode cX13_program 50 = .ok (.aload_n 0, 1) := by decide +kernel
theorem dX13_program_51 : decode cX13_program 51 = .ok (.invokevirtual 205, 3) := by decide +kernel
theorem dX13_program_54 : decode cX13_program 54 = .ok (.iconst 0, 1) := by decide +kernel
theorem dX13_program_55 : decode cX13_program 55 = .ok (.istore_n 2, 1) := by decide +kernel
theorem dX13_program_56 : decode cX13_program 56 = .ok (.iload_n 2, 1) := by decide +kernel
theorem dX13_program_57 : decode cX13_program 57 = .ok (.sipush 246, 3) := by decide +kernel
theorem dX13_program_60 : decode cX13_program 60 = .ok (.if_icmp .ge 20, 3) := by decide +kernel
theorem dX13_program_63 : decode cX13_program 63 = .ok (.aload_n 0, 1) := by decide +kernel
theorem dX13_program_64 : decode cX13_program 64 = .ok (.getfield 31, 3) := by decide +kernel
theorem dX13_program_67 : decode cX13_program 67 = .ok (.sipush 984, 3) := by decide +kernel
theorem dX13_program_70 : decode cX13_program 70 = .ok (.iload_n 2, 1) := by decide +kernel
theorem dX13_program_71 : decode cX13_program 71 = .ok (.iadd, 1) := by decide +kernel
theorem dX13_program_72 : decode cX13_program 72 = .ok (.iconst 0, 1) := by decide +kernel
theorem dX13_program_73 : decode cX13_program 73 = .ok (.iastore, 1) := by decide +kernel
theorem dX13_program_74 : decode cX13_program 74 = .ok (.iinc 2 1, 3) := by decide +kernel
theorem dX13_program_77 : decode cX13_program 77 = .ok (.goto (-21), 3) := by decide +kernel
theorem dX13_program_80 : decode cX13_program 80 = .ok (.aload_n 0, 1) := by decide +kernel
theorem dX13_program_81 : decode cX13_program 81 = .ok (.getfield 195, 3) := by decide +kernel
theorem dX13_program_84 : decode cX13_program 84 = .ok (.ifCond .ne 18, 3) := by decide +kernel
theorem dX13_program_87 : decode cX13_program 87 = .ok (.aload_n 0, 1) := by decide +kernel
theorem dX13_program_88 : decode cX13_program 88 = .ok (.getfield 142, 3) := by decide +kernel
theorem dX13_program_91 : decode cX13_program 91 = .ok (.ifCond .eq 11, 3) := by decide +kernel
theorem dX13_program_94 : decode cX13_program 94 = .ok (.aload_n 0, 1) := by decide +kernel
theorem dX13_program_95 : decode cX13_program 95 = .ok (.iconst 0, 1) := by decide +kernel
theorem dX13_program_96 : decode cX13_program 96 = .ok (.invokevirtual 265, 3) := by decide +kernel
theorem dX13_program_99 : decode cX13_program 99 = .ok (.goto (-19), 3) := by decide +kernel
theorem dX13_program_102 : decode cX13_program 102 = .ok (.aload_n 0, 1) := by decide +kernel
theorem dX13_program_103 : decode cX13_program 103 = .ok (.aload_n 0, 1) := by decide +kernel
theorem dX13_program_104 : decode cX13_program 104 = .ok (.getfield 195, 3) := by decide +kernel
theorem dX13_program_107 : decode cX13_program 107 = .ok (.putfield 24, 3) := by decide +kernel
theorem dX13_program_110 : decode cX13_program 110 = .ok (.aload_n 0, 1) := by decide +kernel
theorem dX13_program_111 : decode cX13_program 111 = .ok (.aload_n 0, 1) := by decide +kernel
theorem dX13_program_112 : decode cX13_program 112 = .ok (.getfield 195, 3) := by decide +kernel
theorem dX13_program_115 : decode cX13_program 115 = .ok (.ifCond .ne 7, 3) := by decide +kernel
theorem dX13_program_118 : decode cX13_program 118 = .ok (.iconst (-1), 1) := by decide +kernel
theorem dX13_program_119 : decode cX13_program 119 = .ok (.goto 7, 3) := by decide +kernel
theorem dX13_program_122 : decode cX13_program 122 = .ok (.aload_n 0, 1) := by decide +kernel
theorem dX13_program_123 : decode cX13_program 123 = .ok (.getfield 198, 3) := by decide +kernel
theorem dX13_program_126 : decode cX13_program 126 = .ok (.putfield 28, 3) := by decide +kernel
theorem dX13_program_129 : decode cX13_program 129 = .ok (.aload_n 0, 1) := by decide +kernel
theorem dX13_program_130 : decode cX13_program 130 = .ok (.getfield 195, 3) := by decide +kernel
theorem dX13_program_133 : decode cX13_program 133 = .ok (.ifCond .le 10, 3) := by decide +kernel
theorem dX13_program_136 : decode cX13_program 136 = .ok (.aload_n 0, 1) := by decide +kernel
theorem dX13_program_137 : decode cX13_program 137 = .ok (.bipush 10, 2) := by decide +kernel
theorem dX13_program_139 : decode cX13_program 139 = .ok (.invokevirtual 268, 3) := by decide +kernel
theorem dX13_program_142 : decode cX13_program 142 = .ok (.ireturn, 1) := by decide +kernel
theorem dX13_program_143 : decode cX13_program 143 = .ok (.iconst 5, 1) := by decide +kernel
theorem dX13_program_144 : decode cX13_program 144 = .ok (.istore_n 2, 1) := by decide +kernel
theorem dX13_program_145 : decode cX13_program 145 = .ok (.iload_n 2, 1) := by decide +kernel
theorem dX13_program_146 : decode cX13_program 146 = .ok (.sipush 246, 3) := by decide +kernel
theorem dX13_program_149 : decode cX13_program 149 = .ok (.if_icmp .ge 25, 3) := by decide +kernel
theorem dX13_program_152 : decode cX13_program 152 = .ok (.aload_n 0, 1) := by decide +kernel
theorem dX13_program_153 : decode cX13_program 153 = .ok (.getfield 31, 3) := by decide +kernel
theorem dX13_program_156 : decode cX13_program 156 = .ok (.iload_n 2, 1) := by decide +kernel
theorem dX13_program_157 : decode cX13_program 157 = .ok (.aload_n 0, 1) := by decide +kernel
theorem dX13_program_158 : decode cX13_program 158 = .ok (.getfield 31, 3) := by decide +kernel
theorem dX13_program_161 : decode cX13_program 161 = .ok (.sipush 984, 3) := by decide +kernel
theorem dX13_program_164 : decode cX13_program 164 = .ok (.iload_n 2, 1) := by decide +kernel
theorem dX13_program_165 : decode cX13_program 165 = .ok (.iadd, 1) := by decide +kernel
theorem dX13_program_166 : decode cX13_program 166 = .ok (.iaload, 1) := by decide +kernel
theorem dX13_program_167 : decode cX13_program 167 = .ok (.iastore, 1) := by decide +kernel
theorem dX13_program_168 : decode cX13_program 168 = .ok (.iinc 2 1, 3) := by decide +kernel
theorem dX13_program_171 : decode cX13_program 171 = .ok (.goto (-26), 3) := by decide +kernel
theorem dX13_program_174 : decode cX13_program 174 = .ok (.aload_n 0, 1) := by decide +kernel
theorem dX13_program_175 : decode cX13_program 175 = .ok (.iconst 0, 1) := by decide +kernel
theorem dX13_program_176 : decode cX13_program 176 = .ok (.putfield 271, 3) := by decide +kernel
theorem dX13_program_179 : decode cX13_program 179 = .ok (.aload_n 0, 1) := by decide +kernel
theorem dX13_program_180 : decode cX13_program 180 = .ok (.getfield 31, 3) := by decide +kernel
theorem dX13_program_183 : decode cX13_program 183 = .ok (.iconst 5, 1) := by decide +kernel
theorem dX13_program_184 : decode cX13_program 184 = .ok (.iaload, 1) := by decide +kernel
theorem dX13_program_185 : decode cX13_program 185 = .ok (.ireturn, 1) := by decide +kernel
def pX13_program_b145 (g : MT) (this : Nat) (p1 : Int32) (k145 : Int32 → CT → Option ((Int32) × CT)) (l2 : Int32) (h : CT) : Option ((Int32) × CT) := if 246 ≤ l2 then lt (sI h this 22 0) fun h2 => (lt (hR h2 this 19) fun r3 => (nn r3 fun a3 => (tg g a3 20 (ix (gL g a3) 5 (some ((hI h2 a3 (Int32.toNatClampNeg 5)), h2)))))) else lt (hR h this 19) fun r6 => (lt (hR h this 19) fun r7 => (nn r7 fun a7 => (tg g a7 20 (ix (gL g a7) (984 + l2) (nn r6 fun a6 => (tg g a6 20 (ix (gL g a6) l2 (lt (sI h a6 (Int32.toNatClampNeg l2) (hI h a7 (Int32.toNatClampNeg (984 + l2)))) fun h12 => (lt (l2 + 1) fun x13 => (k145 x13 h12))))))))))
set_option maxRecDepth 10000 in
set_option maxHeartbeats 4000000 in
theorem pX13_program_b145_ok {X : Cx} {G : Gx} {dk : Nat} {g : MT} {r0 : Int32} {h0 : CT} {this : Nat} {p1 : Int32} {k145 : Int32 → CT → Option ((Int32) × CT)} (Z : Zx X G cX13_program RX13 3 dk (some .int) (some (.int r0)) g h0) (hK : 47 ≤ dk) (t0 : gT g this = 12) (hk145 : ∀ (l2 : Int32) (h : CT), k145 l2 h = some (r0, h0) → J X g h 145 [(0, va_rf (some this)), (2, .int l2)] []) (l2 : Int32) (h : CT) (hf : pX13_program_b145 g this p1 k145 l2 h = some (r0, h0)) : J X g h 145 [(0, va_rf (some this)), (2, .int l2)] [] := by
  unfold pX13_program_b145 at hf
  refine J_iload_n Z.1 1 dX13_program_145 rfl rfl ?_
  refine J_sipush Z.1 (v := 246) (by decide) dX13_program_146 ?_
  refine J_icmp_ge Z.1 174 dX13_program_149 (by decide) (fun c1 => ?_) (fun c1 => ?_)
  · rw [if_pos c1] at hf
    refine J_aload_n Z.1 0 dX13_program_174 rfl rfl ?_
    refine J_iconst Z.1 (v := 0) (by decide) dX13_program_175 ?_
    refine J_putI Z.1 dX13_program_176 fl_X13_271 (fun q => by cases q) t0 (z_n (Or.inl rfl)) (z_f (Or.inl rfl)) (congrArg Value.int (hI_s _ _ _ _)) ?_
    refine J_th (fun h2 eh2 => ?_)
    replace hf := lt_i hf h2 eh2
    refine J_aload_n Z.1 0 dX13_program_179 rfl rfl ?_
    refine J_get (v := va_rf (hR h2 this 19)) Z.1 dX13_program_180 fl_X13_31 t0 rfl ?_
    refine J_tr (fun r3 er3 => ?_)
    replace hf := lt_i hf r3 er3
    refine J_iconst Z.1 (v := 5) (by decide) dX13_program_183 ?_
    replace hf := nn_i hf
    obtain ⟨a3, rfl, hf⟩ := hf
    replace hf := tg_i hf
    obtain ⟨t4, hf⟩ := hf
    replace hf := ix_i hf
    obtain ⟨i5, hf⟩ := hf
    refine J_iaload Z.1 dX13_program_184 t4 i5 ?_
    cases hf
    exact J_iret Z.1 Z.2.2.2.2.2 dX13_program_185
  · rw [if_neg c1] at hf
    refine J_aload_n Z.1 0 dX13_program_152 rfl rfl ?_
    refine J_get (v := va_rf (hR h this 19)) Z.1 dX13_program_153 fl_X13_31 t0 rfl ?_
    refine J_tr (fun r6 er6 => ?_)
    replace hf := lt_i hf r6 er6
    refine J_iload_n Z.1 1 dX13_program_156 rfl rfl ?_
    refine J_aload_n Z.1 0 dX13_program_157 rfl rfl ?_
    refine J_get (v := va_rf (hR h this 19)) Z.1 dX13_program_158 fl_X13_31 t0 rfl ?_
    refine J_tr (fun r7 er7 => ?_)
    replace hf := lt_i hf r7 er7
    refine J_sipush Z.1 (v := 984) (by decide) dX13_program_161 ?_
    refine J_iload_n Z.1 1 dX13_program_164 rfl rfl ?_
    refine J_iadd Z.1 dX13_program_165 ?_
    replace hf := nn_i hf
    obtain ⟨a7, rfl, hf⟩ := hf
    replace hf := tg_i hf
    obtain ⟨t8, hf⟩ := hf
    replace hf := ix_i hf
    obtain ⟨i9, hf⟩ := hf
    refine J_iaload Z.1 dX13_program_166 t8 i9 ?_
    replace hf := nn_i hf
    obtain ⟨a6, rfl, hf⟩ := hf
    replace hf := tg_i hf
    obtain ⟨t10, hf⟩ := hf
    replace hf := ix_i hf
    obtain ⟨i11, hf⟩ := hf
    refine J_iastore Z.1 dX13_program_167 t10 i11 ?_
    refine J_th (fun h12 eh12 => ?_)
    replace hf := lt_i hf h12 eh12
    refine J_iinc Z.1 (v := 1) (lv2 := [(2, .int (l2 + 1)), (0, va_rf (some this))]) 1 dX13_program_168 rfl (by decide) (zL Z (by decide)) rfl ?_
    obtain ⟨x13, ex13⟩ : ∃ z, z = (l2 + 1) := ⟨_, rfl⟩
    replace hf := lt_i hf x13 ex13
    rw [← ex13]
    refine J_goto Z.1 145 dX13_program_171 (by decide) ?_
    refine J_lv [1, 0] rfl ?_
    exact hk145 _ _ hf
def pX13_program_l145 (g : MT) (this : Nat) (p1 : Int32) : Nat → Int32 → CT → Option ((Int32) × CT)
  | 0, _, _ => none
  | n + 1, l2, h => pX13_program_b145 g this p1 (pX13_program_l145 g this p1 n) l2 h
theorem pX13_program_l145_ok {X : Cx} {G : Gx} {dk : Nat} {g : MT} {r0 : Int32} {h0 : CT} {this : Nat} {p1 : Int32} (Z : Zx X G cX13_program RX13 3 dk (some .int) (some (.int r0)) g h0) (hK : 47 ≤ dk) (t0 : gT g this = 12) : ∀ (n : Nat) (l2 : Int32) (h : CT), pX13_program_l145 g this p1 n l2 h = some (r0, h0) → J X g h 145 [(0, va_rf (some this)), (2, .int l2)] [] := by
  intro n
  induction n with
  | zero => intro l2 h hf; cases hf
  | succ n ih => intro l2 h hf; exact pX13_program_b145_ok Z hK t0 ih l2 h hf
def pX13_program_b126 (g : MT) (this : Nat) (p1 : Int32) (s0 : Nat) (s1 : Int32) (h : CT) : Option ((Int32) × CT) := tg g s0 12 (lt (sI h s0 11 s1) fun h2 => (if (hI h2 this 12) ≤ 0 then pX13_program_l145 g this p1  FUEL 5 h2 else bd2 (pX13_refuse g h2 this 10) fun x6 h4 => (some (x6, h4))))
set_option maxRecDepth 10000 in
set_option maxHeartbeats 4000000 in
theorem pX13_program_b126_ok {X : Cx} {G : Gx} {dk : Nat} {g : MT} {r0 : Int32} {h0 : CT} {this : Nat} {p1 : Int32} (Z : Zx X G cX13_program RX13 3 dk (some .int) (some (.int r0)) g h0) (hK : 47 ≤ dk) (t0 : gT g this = 12) (s0 : Nat) (s1 : Int32) (h : CT) (hf : pX13_program_b126 g this p1 s0 s1 h = some (r0, h0)) : J X g h 126 [(0, va_rf (some this))] [.int s1, va_rf (some s0)] := by
  unfold pX13_program_b126 at hf
  replace hf := tg_i hf
  obtain ⟨t1, hf⟩ := hf
  refine J_putI Z.1 dX13_program_126 fl_X13_28 (fun q => by cases q) t1 rfl rfl (congrArg Value.int (hI_s _ _ _ _)) ?_
  refine J_th (fun h2 eh2 => ?_)
  replace hf := lt_i hf h2 eh2
  refine J_aload_n Z.1 0 dX13_program_129 rfl rfl ?_
  refine J_get (v := .int (hI h2 this 12)) Z.1 dX13_program_130 fl_X13_195 t0 rfl ?_
  refine J_if_le Z.1 143 dX13_program_133 (by decide) (fun c3 => ?_) (fun c3 => ?_)
  · rw [if_pos c3] at hf
    refine J_iconst Z.1 (v := 5) (by decide) dX13_program_143 ?_
    refine J_istore_n Z.1 (lv2 := [(2, .int 5), (0, va_rf (some this))]) dX13_program_144 rfl (zL Z (by decide)) rfl ?_
    refine J_lv [1, 0] rfl ?_
    exact pX13_program_l145_ok Z hK t0  FUEL _ _ hf
  · rw [if_neg c3] at hf
    refine J_aload_n Z.1 0 dX13_program_136 rfl rfl ?_
    refine J_bipush Z.1 (v := 10) (by decide) dX13_program_137 ?_
    replace hf := bd2_i hf
    obtain ⟨x6, h4, q5, hf⟩ := hf
    refine J_callV (ci := 11) (as := [.int 10]) (rest := []) (sy := [.int x6]) Z.1 dX13_program_139 cw_X13_268 (pX13_refuse_ok G (dk - 1) (by omega) q5) rfl rfl t0 (zG Z) rfl (by decide) (zF Z (by omega)) (zO Z (by omega) (by decide)) (zM _) Z.2.1 Z.2.1 rfl rfl ?_
    cases hf
    exact J_iret Z.1 Z.2.2.2.2.2 dX13_program_142
def pX13_program_b102 (g : MT) (this : Nat) (p1 : Int32) (h : CT) : Option ((Int32) × CT) := lt (sI h this 10 (hI h this 12)) fun h1 => (if (hI h1 this 12) = 0 then pX13_program_b126 g this p1  this (-1) h1 else pX13_program_b126 g this p1  this (hI h1 this 13) h1)
set_option maxRecDepth 10000 in
set_option maxHeartbeats 4000000 in
theorem pX13_program_b102_ok {X : Cx} {G : Gx} {dk : Nat} {g : MT} {r0 : Int32} {h0 : CT} {this : Nat} {p1 : Int32} (Z : Zx X G cX13_program RX13 3 dk (some .int) (some (.int r0)) g h0) (hK : 47 ≤ dk) (t0 : gT g this = 12) (h : CT) (hf : pX13_program_b102 g this p1 h = some (r0, h0)) : J X g h 102 [(0, va_rf (some this))] [] := by
  unfold pX13_program_b102 at hf
  refine J_aload_n Z.1 0 dX13_program_102 rfl rfl ?_
  refine J_aload_n Z.1 0 dX13_program_103 rfl rfl ?_
  refine J_get (v := .int (hI h this 12)) Z.1 dX13_program_104 fl_X13_195 t0 rfl ?_
  refine J_putI Z.1 dX13_program_107 fl_X13_24 (fun q => by cases q) t0 rfl rfl (congrArg Value.int (hI_s _ _ _ _)) ?_
  refine J_th (fun h1 eh1 => ?_)
  replace hf := lt_i hf h1 eh1
  refine J_aload_n Z.1 0 dX13_program_110 rfl rfl ?_
  refine J_aload_n Z.1 0 dX13_program_111 rfl rfl ?_
  refine J_get (v := .int (hI h1 this 12)) Z.1 dX13_program_112 fl_X13_195 t0 rfl ?_
  refine J_if_ne Z.1 122 dX13_program_115 (by decide) (fun c2 => ?_) (fun c2 => ?_)
  · rw [if_neg c2] at hf
    refine J_aload_n Z.1 0 dX13_program_122 rfl rfl ?_
    refine J_get (v := .int (hI h1 this 13)) Z.1 dX13_program_123 fl_X13_198 t0 rfl ?_
    exact pX13_program_b126_ok Z hK t0  _ _ _ hf
  · rw [if_pos c2] at hf
    refine J_iconst Z.1 (v := (-1)) (by decide) dX13_program_118 ?_
    refine J_goto Z.1 126 dX13_program_119 (by decide) ?_
    exact pX13_program_b126_ok Z hK t0  _ _ _ hf
def pX13_program_b80 (g : MT) (this : Nat) (p1 : Int32) (k80 : CT → Option ((Int32) × CT)) (h : CT) : Option ((Int32) × CT) := if (hI h this 12) = 0 then if (hI h this 14) = 0 then pX13_program_b102 g this p1  h else bd (pX13_readCode g h this 0) fun h3 => (k80 h3) else pX13_program_b102 g this p1  h
set_option maxRecDepth 10000 in
set_option maxHeartbeats 4000000 in
theorem pX13_program_b80_ok {X : Cx} {G : Gx} {dk : Nat} {g : MT} {r0 : Int32} {h0 : CT} {this : Nat} {p1 : Int32} {k80 : CT → Option ((Int32) × CT)} (Z : Zx X G cX13_program RX13 3 dk (some .int) (some (.int r0)) g h0) (hK : 47 ≤ dk) (t0 : gT g this = 12) (hk80 : ∀ (h : CT), k80 h = some (r0, h0) → J X g h 80 [(0, va_rf (some this))] []) (h : CT) (hf : pX13_program_b80 g this p1 k80 h = some (r0, h0)) : J X g h 80 [(0, va_rf (some this))] [] := by
  unfold pX13_program_b80 at hf
  refine J_aload_n Z.1 0 dX13_program_80 rfl rfl ?_
  refine J_get (v := .int (hI h this 12)) Z.1 dX13_program_81 fl_X13_195 t0 rfl ?_
  refine J_if_ne Z.1 102 dX13_program_84 (by decide) (fun c1 => ?_) (fun c1 => ?_)
  · rw [if_neg c1] at hf
    exact pX13_program_b102_ok Z hK t0  _ hf
  · rw [if_pos c1] at hf
    refine J_aload_n Z.1 0 dX13_program_87 rfl rfl ?_
    refine J_get (v := .int (hI h this 14)) Z.1 dX13_program_88 fl_X13_142 t0 rfl ?_
    refine J_if_eq Z.1 102 dX13_program_91 (by decide) (fun c2 => ?_) (fun c2 => ?_)
    · rw [if_pos c2] at hf
      exact pX13_program_b102_ok Z hK t0  _ hf
    · rw [if_neg c2] at hf
      refine J_aload_n Z.1 0 dX13_program_94 rfl rfl ?_
      refine J_iconst Z.1 (v := 0) (by decide) dX13_program_95 ?_
      replace hf := bd_i hf
      obtain ⟨h3, q4, hf⟩ := hf
      refine J_callV (ci := 11) (as := [.int 0]) (rest := []) (sy := []) Z.1 dX13_program_96 cw_X13_265 (pX13_readCode_ok G (dk - 1) (by omega) q4) rfl rfl t0 (zG Z) rfl (by decide) (zF Z (by omega)) (zO Z (by omega) (by decide)) (zM _) Z.2.1 Z.2.1 rfl rfl ?_
      refine J_goto Z.1 80 dX13_program_99 (by decide) ?_
      exact hk80 _ hf
def pX13_program_l80 (g : MT) (this : Nat) (p1 : Int32) : Nat → CT → Option ((Int32) × CT)
  | 0, _ => none
  | n + 1, h => pX13_program_b80 g this p1 (pX13_program_l80 g this p1 n) h
theorem pX13_program_l80_ok {X : Cx} {G : Gx} {dk : Nat} {g : MT} {r0 : Int32} {h0 : CT} {this : Nat} {p1 : Int32} (Z : Zx X G cX13_program RX13 3 dk (some .int) (some (.int r0)) g h0) (hK : 47 ≤ dk) (t0 : gT g this = 12) : ∀ (n : Nat) (h : CT), pX13_program_l80 g this p1 n h = some (r0, h0) → J X g h 80 [(0, va_rf (some this))] [] := by
  intro n
  induction n with
  | zero => intro h hf; cases hf
  | succ n ih => intro h hf; exact pX13_program_b80_ok Z hK t0 ih h hf
def pX13_program_b56 (g : MT) (this : Nat) (p1 : Int32) (k56 : Int32 → CT → Option ((Int32) × CT)) (l2 : Int32) (h : CT) : Option ((Int32) × CT) := if 246 ≤ l2 then pX13_program_l80 g this p1  FUEL h else lt (hR h this 19) fun r2 => (nn r2 fun a2 => (tg g a2 20 (ix (gL g a2) (984 + l2) (lt (sI h a2 (Int32.toNatClampNeg (984 + l2)) 0) fun h5 => (lt (l2 + 1) fun x6 => (k56 x6 h5))))))
set_option maxRecDepth 10000 in
set_option maxHeartbeats 4000000 in
theorem pX13_program_b56_ok {X : Cx} {G : Gx} {dk : Nat} {g : MT} {r0 : Int32} {h0 : CT} {this : Nat} {p1 : Int32} {k56 : Int32 → CT → Option ((Int32) × CT)} (Z : Zx X G cX13_program RX13 3 dk (some .int) (some (.int r0)) g h0) (hK : 47 ≤ dk) (t0 : gT g this = 12) (hk56 : ∀ (l2 : Int32) (h : CT), k56 l2 h = some (r0, h0) → J X g h 56 [(0, va_rf (some this)), (2, .int l2)] []) (l2 : Int32) (h : CT) (hf : pX13_program_b56 g this p1 k56 l2 h = some (r0, h0)) : J X g h 56 [(0, va_rf (some this)), (2, .int l2)] [] := by
  unfold pX13_program_b56 at hf
  refine J_iload_n Z.1 1 dX13_program_56 rfl rfl ?_
  refine J_sipush Z.1 (v := 246) (by decide) dX13_program_57 ?_
  refine J_icmp_ge Z.1 80 dX13_program_60 (by decide) (fun c1 => ?_) (fun c1 => ?_)
  · rw [if_pos c1] at hf
    refine J_lv [0] rfl ?_
    exact pX13_program_l80_ok Z hK t0  FUEL _ hf
  · rw [if_neg c1] at hf
    refine J_aload_n Z.1 0 dX13_program_63 rfl rfl ?_
    refine J_get (v := va_rf (hR h this 19)) Z.1 dX13_program_64 fl_X13_31 t0 rfl ?_
    refine J_tr (fun r2 er2 => ?_)
    replace hf := lt_i hf r2 er2
    refine J_sipush Z.1 (v := 984) (by decide) dX13_program_67 ?_
    refine J_iload_n Z.1 1 dX13_program_70 rfl rfl ?_
    refine J_iadd Z.1 dX13_program_71 ?_
    refine J_iconst Z.1 (v := 0) (by decide) dX13_program_72 ?_
    replace hf := nn_i hf
    obtain ⟨a2, rfl, hf⟩ := hf
    replace hf := tg_i hf
    obtain ⟨t3, hf⟩ := hf
    replace hf := ix_i hf
    obtain ⟨i4, hf⟩ := hf
    refine J_iastore Z.1 dX13_program_73 t3 i4 ?_
    refine J_th (fun h5 eh5 => ?_)
    replace hf := lt_i hf h5 eh5
    refine J_iinc Z.1 (v := 1) (lv2 := [(2, .int (l2 + 1)), (0, va_rf (some this))]) 1 dX13_program_74 rfl (by decide) (zL Z (by decide)) rfl ?_
    obtain ⟨x6, ex6⟩ : ∃ z, z = (l2 + 1) := ⟨_, rfl⟩
    replace hf := lt_i hf x6 ex6
    rw [← ex6]
    refine J_goto Z.1 56 dX13_program_77 (by decide) ?_
    refine J_lv [1, 0] rfl ?_
    exact hk56 _ _ hf
def pX13_program_l56 (g : MT) (this : Nat) (p1 : Int32) : Nat → Int32 → CT → Option ((Int32) × CT)
  | 0, _, _ => none
  | n + 1, l2, h => pX13_program_b56 g this p1 (pX13_program_l56 g this p1 n) l2 h
theorem pX13_program_l56_ok {X : Cx} {G : Gx} {dk : Nat} {g : MT} {r0 : Int32} {h0 : CT} {this : Nat} {p1 : Int32} (Z : Zx X G cX13_program RX13 3 dk (some .int) (some (.int r0)) g h0) (hK : 47 ≤ dk) (t0 : gT g this = 12) : ∀ (n : Nat) (l2 : Int32) (h : CT), pX13_program_l56 g this p1 n l2 h = some (r0, h0) → J X g h 56 [(0, va_rf (some this)), (2, .int l2)] [] := by
  intro n
  induction n with
  | zero => intro l2 h hf; cases hf
  | succ n ih => intro l2 h hf; exact pX13_program_b56_ok Z hK t0 ih l2 h hf
def pX13_program (g : MT) (h : CT) (this : Nat) (p1 : Int32) : Option ((Int32) × CT) := tg g this 12 (lt (sI h this 1 0) fun h1 => (lt (sI h1 this 0 0) fun h2 => (if (pX13_isIn (Int32.toInt64 p1) 0 (Int32.toInt64 (hI h2 this 8))) = 0 then bd2 (pX13_refuse g h2 this 5) fun x12 h10 => (some (x12, h10)) else lt (sI h2 this 9 p1) fun h4 => (lt (sI h4 this 8 0) fun h5 => (lt (sI h5 this 16 0) fun h6 => (lt (sI h6 this 12 0) fun h7 => (bd (pX13_advance g h7 this) fun h8 => (pX13_program_l56 g this p1  FUEL 0 h8))))))))
set_option maxRecDepth 10000 in
set_option maxHeartbeats 4000000 in
theorem pX13_program_ok (G : Gx) (dk : Nat) (hK : 47 ≤ dk) {g : MT} {h h0 : CT} {this : Nat} {p1 : Int32} {r0 : Int32} (hf : pX13_program g h this p1 = some (r0, h0)) : Ctr G dk yX13_program cX13_program 3 (some .int) [va_rf (some this), .int p1] g h (some (.int r0)) g h0 := by
  refine Ctr.ofZ (lv := [(0, va_rf (some this)), (1, .int p1)]) (by decide +kernel) (by simp [cat_i, cat_l, cat_d, cat_rf]) rfl fun X Z => ?_
  unfold pX13_program at hf
  replace hf := tg_i hf
  obtain ⟨t0, hf⟩ := hf
  refine J_aload_n Z.1 0 dX13_program_0 rfl rfl ?_
  refine J_iconst Z.1 (v := 0) (by decide) dX13_program_1 ?_
  refine J_putI Z.1 dX13_program_2 fl_X13_71 (fun q => by cases q) t0 rfl rfl (congrArg Value.int (hI_s _ _ _ _)) ?_
  refine J_th (fun h1 eh1 => ?_)
  replace hf := lt_i hf h1 eh1
  refine J_aload_n Z.1 0 dX13_program_5 rfl rfl ?_
  refine J_iconst Z.1 (v := 0) (by decide) dX13_program_6 ?_
  refine J_putI Z.1 dX13_program_7 fl_X13_74 (fun q => by cases q) t0 rfl rfl (congrArg Value.int (hI_s _ _ _ _)) ?_
  refine J_th (fun h2 eh2 => ?_)
  replace hf := lt_i hf h2 eh2
  refine J_iload_n Z.1 1 dX13_program_10 rfl rfl ?_
  refine J_i2l Z.1 dX13_program_11 ?_
  refine J_lconst Z.1 (v := 0) (by decide) dX13_program_12 ?_
  refine J_aload_n Z.1 0 dX13_program_13 rfl rfl ?_
  refine J_get (v := .int (hI h2 this 8)) Z.1 dX13_program_14 fl_X13_225 t0 rfl ?_
  refine J_i2l Z.1 dX13_program_17 ?_
  refine J_callS (as := [.long (Int32.toInt64 p1), .long 0, .long (Int32.toInt64 (hI h2 this 8))]) (rest := []) (sy := [.int (pX13_isIn (Int32.toInt64 p1) 0 (Int32.toInt64 (hI h2 this 8)))]) Z.1 dX13_program_18 cw_X13_104 (pX13_isIn_ok G (dk - 1) (by omega) g h2 (Int32.toInt64 p1) 0 (Int32.toInt64 (hI h2 this 8))) (zG Z) rfl (by decide) (zF Z (by omega)) (zO Z (by omega) (by decide)) (zM _) Z.2.1 Z.2.1 rfl rfl ?_
  refine J_if_ne Z.1 30 dX13_program_21 (by decide) (fun c3 => ?_) (fun c3 => ?_)
  · rw [if_neg c3] at hf
    refine J_aload_n Z.1 0 dX13_program_30 rfl rfl ?_
    refine J_iload_n Z.1 1 dX13_program_31 rfl rfl ?_
    refine J_putI Z.1 dX13_program_32 fl_X13_130 (fun q => by cases q) t0 rfl rfl (congrArg Value.int (hI_s _ _ _ _)) ?_
    refine J_th (fun h4 eh4 => ?_)
    replace hf := lt_i hf h4 eh4
    refine J_aload_n Z.1 0 dX13_program_35 rfl rfl ?_
    refine J_iconst Z.1 (v := 0) (by decide) dX13_program_36 ?_
    refine J_putI Z.1 dX13_program_37 fl_X13_225 (fun q => by cases q) t0 rfl rfl (congrArg Value.int (hI_s _ _ _ _)) ?_
    refine J_th (fun h5 eh5 => ?_)
    replace hf := lt_i hf h5 eh5
    refine J_aload_n Z.1 0 dX13_program_40 rfl rfl ?_
    refine J_iconst Z.1 (v := 0) (by decide) dX13_program_41 ?_
    refine J_putI Z.1 dX13_program_42 fl_X13_133 (fun q => by cases q) t0 rfl rfl (congrArg Value.int (hI_s _ _ _ _)) ?_
    refine J_th (fun h6 eh6 => ?_)
    replace hf := lt_i hf h6 eh6
    refine J_aload_n Z.1 0 dX13_program_45 rfl rfl ?_
    refine J_iconst Z.1 (v := 0) (by decide) dX13_program_46 ?_
    refine J_putI Z.1 dX13_program_47 fl_X13_195 (fun q => by cases q) t0 rfl rfl (congrArg Value.int (hI_s _ _ _ _)) ?_
    refine J_th (fun h7 eh7 => ?_)
    replace hf := lt_i hf h7 eh7
    refine J_aload_n Z.1 0 dX13_program_50 rfl rfl ?_
    replace hf := bd_i hf
    obtain ⟨h8, q9, hf⟩ := hf
    refine J_callV (ci := 11) (as := []) (rest := []) (sy := []) Z.1 dX13_program_51 cw_X13_205 (pX13_advance_ok G (dk - 1) (by omega) q9) rfl rfl t0 (zG Z) rfl (by decide) (zF Z (by omega)) (zO Z (by omega) (by decide)) (zM _) Z.2.1 Z.2.1 rfl rfl ?_
    refine J_iconst Z.1 (v := 0) (by decide) dX13_program_54 ?_
    refine J_istore_n Z.1 (lv2 := [(2, .int 0), (0, va_rf (some this)), (1, .int p1)]) dX13_program_55 rfl (zL Z (by decide)) rfl ?_
    refine J_lv [1, 0] rfl ?_
    exact pX13_program_l56_ok Z hK t0  FUEL _ _ hf
  · rw [if_pos c3] at hf
    refine J_aload_n Z.1 0 dX13_program_24 rfl rfl ?_
    refine J_iconst Z.1 (v := 5) (by decide) dX13_program_25 ?_
    replace hf := bd2_i hf
    obtain ⟨x12, h10, q11, hf⟩ := hf
    refine J_callV (ci := 11) (as := [.int 5]) (rest := []) (sy := [.int x12]) Z.1 dX13_program_26 cw_X13_268 (pX13_refuse_ok G (dk - 1) (by omega) q11) rfl rfl t0 (zG Z) rfl (by decide) (zF Z (by omega)) (zO Z (by omega) (by decide)) (zM _) Z.2.1 Z.2.1 rfl rfl ?_
    cases hf
    exact J_iret Z.1 Z.2.2.2.2.2 dX13_program_29
theorem dX13_folds_0 : decode cX13_folds 0 = .ok (.aload_n 0, 1) := by decide +kernel
theorem dX13_folds_1 : decode cX13_folds 1 = .ok (.iload_n 1, 1) := by decide +kernel
theorem dX13_folds_2 : decode cX13_folds 2 = .ok (.iconst 1, 1) := by decide +kernel
theorem dX13_folds_3 : decode cX13_folds 3 = .ok (.invokevirtual 381, 3) := by decide +kernel
theorem dX13_folds_6 : decode cX13_folds 6 = .ok (.istore_n 3, 1) := by decide +kernel
theorem dX13_folds_7 : decode cX13_folds 7 = .ok (.aload_n 0, 1) := by decide +kernel
theorem dX13_folds_8 : decode cX13_folds 8 = .ok (.getfield 31, 3) := by decide +kernel
theorem dX13_folds_11 : decode cX13_folds 11 = .ok (.iconst 0, 1) := by decide +kernel
theorem dX13_folds_12 : decode cX13_folds 12 = .ok (.iaload, 1) := by decide +kernel
theorem dX13_folds_13 : decode cX13_folds 13 = .ok (.ifCond .le 19, 3) := by decide +kernel
theorem dX13_folds_16 : decode cX13_folds 16 = .ok (.aload_n 0, 1) := by decide +kernel
theorem dX13_folds_17 : decode cX13_folds 17 = .ok (.iload_n 3, 1) := by decide +kernel
theorem dX13_folds_18 : decode cX13_folds 18 = .ok (.invokevirtual 386, 3) := by decide +kernel
theorem dX13_folds_21 : decode cX13_folds 21 = .ok (.ifCond .eq 11, 3) := by decide +kernel
theorem dX13_folds_24 : decode cX13_folds 24 = .ok (.aload_n 0, 1) := by decide +kernel
theorem dX13_folds_25 : decode cX13_folds 25 = .ok (.iconst 2, 1) := by decide +kernel
theorem dX13_folds_26 : decode cX13_folds 26 = .ok (.iload_n 1, 1) := by decide +kernel
theorem dX13_folds_27 : decode cX13_folds 27 = .ok (.iconst 0, 1) := by decide +kernel
theorem dX13_folds_28 : decode cX13_folds 28 = .ok (.invokevirtual 424, 3) := by decide +kernel
theorem dX13_folds_31 : decode cX13_folds 31 = .ok (.return_, 1) := by decide +kernel
theorem dX13_folds_32 : decode cX13_folds 32 = .ok (.iconst 0, 1) := by decide +kernel
theorem dX13_folds_33 : decode cX13_folds 33 = .ok (.istore 4, 2) := by decide +kernel
theorem dX13_folds_35 : decode cX13_folds 35 = .ok (.iload 4, 2) := by decide +kernel
theorem dX13_folds_37 : decode cX13_folds 37 = .ok (.aload_n 0, 1) := by decide +kernel
theorem dX13_folds_38 : decode cX13_folds 38 = .ok (.getfield 31, 3) := by decide +kernel
theorem dX13_folds_41 : decode cX13_folds 41 = .ok (.iconst 0, 1) := by decide +kernel
theorem dX13_folds_42 : decode cX13_folds 42 = .ok (.iaload, 1) := by decide +kernel
theorem dX13_folds_43 : decode cX13_folds 43 = .ok (.if_icmp .ge 17, 3) := by decide +kernel
theorem dX13_folds_46 : decode cX13_folds 46 = .ok (.aload_n 0, 1) := by decide +kernel
theorem dX13_folds_47 : decode cX13_folds 47 = .ok (.iload_n 3, 1) := by decide +kernel
theorem dX13_folds_48 : decode cX13_folds 48 = .ok (.iload 4, 2) := by decide +kernel
theorem dX13_folds_50 : decode cX13_folds 50 = .ok (.iload_n 2, 1) := by decide +kernel
theorem dX13_folds_51 : decode cX13_folds 51 = .ok (.invokevirtual 444, 3) := by decide +kernel
theorem dX13_folds_54 : decode cX13_folds 54 = .ok (.iinc 4 1, 3) := by decide +kernel
theorem dX13_folds_57 : decode cX13_folds 57 = .ok (.goto (-22), 3) := by decide +kernel
theorem dX13_folds_60 : decode cX13_folds 60 = .ok (.aload_n 0, 1) := by decide +kernel
theorem dX13_folds_61 : decode cX13_folds 61 = .ok (.getfield 34, 3) := by decide +kernel
theorem dX13_folds_64 : decode cX13_folds 64 = .ok (.bipush 96, 2) := by decide +kernel
theorem dX13_folds_66 : decode cX13_folds 66 = .ok (.aload_n 0, 1) := by decide +kernel
theorem dX13_folds_67 : decode cX13_folds 67 = .ok (.iload_n 1, 1) := by decide +kernel
theorem dX13_folds_68 : decode cX13_folds 68 = .ok (.iconst 5, 1) := by decide +kernel
theorem dX13_folds_69 : decode cX13_folds 69 = .ok (.invokevirtual 381, 3) := by decide +kernel
theorem dX13_folds_72 : decode cX13_folds 72 = .ok (.iadd, 1) := by decide +kernel
theorem dX13_folds_73 : decode cX13_folds 73 = .ok (.aload_n 0, 1) := by decide +kernel
theorem dX13_folds_74 : decode cX13_folds 74 = .ok (.iload_n 3, 1) := by decide +kernel
theorem dX13_folds_75 : decode cX13_folds 75 = .ok (.aload_n 0, 1) := by decide +kernel
theorem dX13_folds_76 : decode cX13_folds 76 = .ok (.getfield 31, 3) := by decide +kernel
theorem dX13_folds_79 : decode cX13_folds 79 = .ok (.iconst 0, 1) := by decide +kernel
theorem dX13_folds_80 : decode cX13_folds 80 = .ok (.iaload, 1) := by decide +kernel
theorem dX13_folds_81 : decode cX13_folds 81 = .ok (.aload_n 0, 1) := by decide +kernel
theorem dX13_folds_82 : decode cX13_folds 82 = .ok (.iload_n 1, 1) := by decide +kernel
theorem dX13_folds_83 : decode cX13_folds 83 = .ok (.iconst 0, 1) := by decide +kernel
theorem dX13_folds_84 : decode cX13_folds 84 = .ok (.invokevirtual 381, 3) := by decide +kernel
theorem dX13_folds_87 : decode cX13_folds 87 = .ok (.bipush 23, 2) := by decide +kernel
theorem dX13_folds_89 : decode cX13_folds 89 = .ok (.if_icmp .ne 7, 3) := by decide +kernel
theorem dX13_folds_92 : decode cX13_folds 92 = .ok (.iconst 1, 1) := by decide +kernel
theorem dX13_folds_93 : decode cX13_folds 93 = .ok (.goto 4, 3) := by decide +kernel
theorem dX13_folds_96 : decode cX13_folds 96 = .ok (.iconst 0, 1) := by decide +kernel
theorem dX13_folds_97 : decode cX13_folds 97 = .ok (.invokevirtual 490, 3) := by decide +kernel
theorem dX13_folds_100 : decode cX13_folds 100 = .ok (.dastore, 1) := by decide +kernel
theorem dX13_folds_101 : decode cX13_folds 101 = .ok (.aload_n 0, 1) := by decide +kernel
theorem dX13_folds_102 : decode cX13_folds 102 = .ok (.iload_n 1, 1) := by decide +kernel
theorem dX13_folds_103 : decode cX13_folds 103 = .ok (.iload_n 2, 1) := by decide +kernel
theorem dX13_folds_104 : decode cX13_folds 104 = .ok (.iconst 3, 1) := by decide +kernel
theorem dX13_folds_105 : decode cX13_folds 105 = .ok (.aload_n 0, 1) := by decide +kernel
theorem dX13_folds_106 : decode cX13_folds 106 = .ok (.getfield 487, 3) := by decide +kernel
theorem dX13_folds_109 : decode cX13_folds 109 = .ok (.imul, 1) := by decide +kernel
theorem dX13_folds_110 : decode cX13_folds 110 = .ok (.iadd, 1) := by decide +kernel
theorem dX13_folds_111 : decode cX13_folds 111 = .ok (.invokevirtual 494, 3) := by decide +kernel
theorem dX13_folds_114 : decode cX13_folds 114 = .ok (.return_, 1) := by decide +kernel
def pX13_folds_b97 (g : MT) (this : Nat) (p1 : Int32) (p2 : Int32) (r80 : Option Nat) (s1 : Int32) (s2 : Nat) (s3 : Int32) (s4 : Int32) (s5 : Int32) (h : CT) : Option CT := tg g s2 12 (bd2 (pX13_folded g h s2 s3 s4 s5) fun x4 h2 => (nn r80 fun a80 => (tg g a80 22 (ix (gL g a80) s1 (lt (sD h2 a80 (Int32.toNatClampNeg s1) x4) fun h7 => (bd (pX13_ends g h7 this p1 (p2 + (3 * (hI h7 this 44)))) fun h8 => (some h8)))))))
set_option maxRecDepth 10000 in
set_option maxHeartbeats 4000000 in
theorem pX13_folds_b97_ok {X : Cx} {G : Gx} {dk : Nat} {g : MT} {h0 : CT} {this : Nat} {p1 : Int32} {p2 : Int32} (Z : Zx X G cX13_folds RX13 5 dk none none g h0) (hK : 3 ≤ dk) (t0 : gT g this = 12) (r80 : Option Nat) (s1 : Int32) (s2 : Nat) (s3 : Int32) (s4 : Int32) (s5 : Int32) (h : CT) (hf : pX13_folds_b97 g this p1 p2 r80 s1 s2 s3 s4 s5 h = some h0) : J X g h 97 [(0, va_rf (some this)), (1, .int p1), (2, .int p2)] [.int s5, .int s4, .int s3, va_rf (some s2), .int s1, va_rf r80] := by
  unfold pX13_folds_b97 at hf
  replace hf := tg_i hf
  obtain ⟨t1, hf⟩ := hf
  replace hf := bd2_i hf
  obtain ⟨x4, h2, q3, hf⟩ := hf
  refine J_callV (ci := 11) (as := [.int s3, .int s4, .int s5]) (rest := [.int s1, va_rf r80]) (sy := [.double x4, .int s1, va_rf r80]) Z.1 dX13_folds_97 cw_X13_490 (pX13_folded_ok G (dk - 1) (by omega) q3) rfl rfl t1 (zG Z) rfl (by simp [cat_i, cat_l, cat_d, cat_rf]) (zF Z (by omega)) (zO Z (by omega) (by decide)) (zM _) Z.2.1 Z.2.1 rfl rfl ?_
  replace hf := nn_i hf
  obtain ⟨a80, rfl, hf⟩ := hf
  replace hf := tg_i hf
  obtain ⟨t5, hf⟩ := hf
  replace hf := ix_i hf
  obtain ⟨i6, hf⟩ := hf
  refine J_dastore Z.1 dX13_folds_100 t5 i6 ?_
  refine J_th (fun h7 eh7 => ?_)
  replace hf := lt_i hf h7 eh7
  refine J_aload_n Z.1 0 dX13_folds_101 rfl rfl ?_
  refine J_iload_n Z.1 1 dX13_folds_102 rfl rfl ?_
  refine J_iload_n Z.1 2 dX13_folds_103 rfl rfl ?_
  refine J_iconst Z.1 (v := 3) (by decide) dX13_folds_104 ?_
  refine J_aload_n Z.1 0 dX13_folds_105 rfl rfl ?_
  refine J_get (v := .int (hI h7 this 44)) Z.1 dX13_folds_106 fl_X13_487 t0 rfl ?_
  refine J_imul Z.1 dX13_folds_109 ?_
  refine J_iadd Z.1 dX13_folds_110 ?_
  replace hf := bd_i hf
  obtain ⟨h8, q9, hf⟩ := hf
  refine J_callV (ci := 11) (as := [.int p1, .int (p2 + (3 * (hI h7 this 44)))]) (rest := []) (sy := []) Z.1 dX13_folds_111 cw_X13_494 (pX13_ends_ok G (dk - 1) (by omega) q9) rfl rfl t0 (zG Z) rfl (by decide) (zF Z (by omega)) (zO Z (by omega) (by decide)) (zM _) Z.2.1 Z.2.1 rfl rfl ?_
  cases hf
  exact J_vret Z.1 Z.2.2.2.2.2 dX13_folds_114
def pX13_folds_b35 (g : MT) (this : Nat) (p1 : Int32) (p2 : Int32) (k35 : Int32 → Int32 → CT → Option CT) (l3 : Int32) (l4 : Int32) (h : CT) : Option CT := lt (hR h this 19) fun r1 => (nn r1 fun a1 => (tg g a1 20 (ix (gL g a1) 0 (if (hI h a1 (Int32.toNatClampNeg 0)) ≤ l4 then lt (hR h this 20) fun r5 => (bd (pX13_at g h this p1 5) fun x6 => (lt (hR h this 19) fun r8 => (nn r8 fun a8 => (tg g a8 20 (ix (gL g a8) 0 (bd (pX13_at g h this p1 0) fun x11 => (if x11 = 23 then pX13_folds_b97 g this p1 p2  r5 (96 + x6) this l3 (hI h a8 (Int32.toNatClampNeg 0)) 1 h else pX13_folds_b97 g this p1 p2  r5 (96 + x6) this l3 (hI h a8 (Int32.toNatClampNeg 0)) 0 h))))))) else bd (pX13_reads g h this l3 l4 p2) fun h14 => (lt (l4 + 1) fun x16 => (k35 l3 x16 h14))))))
set_option maxRecDepth 10000 in
set_option maxHeartbeats 4000000 in
theorem pX13_folds_b35_ok {X : Cx} {G : Gx} {dk : Nat} {g : MT} {h0 : CT} {this : Nat} {p1 : Int32} {p2 : Int32} {k35 : Int32 → Int32 → CT → Option CT} (Z : Zx X G cX13_folds RX13 5 dk none none g h0) (hK : 3 ≤ dk) (t0 : gT g this = 12) (hk35 : ∀ (l3 : Int32) (l4 : Int32) (h : CT), k35 l3 l4 h = some h0 → J X g h 35 [(0, va_rf (some this)), (1, .int p1), (2, .int p2), (3, .int l3), (4, .int l4)] []) (l3 : Int32) (l4 : Int32) (h : CT) (hf : pX13_folds_b35 g this p1 p2 k35 l3 l4 h = some h0) : J X g h 35 [(0, va_rf (some this)), (1, .int p1), (2, .int p2), (3, .int l3), (4, .int l4)] [] := by
  unfold pX13_folds_b35 at hf
  refine J_iload Z.1 4 dX13_folds_35 rfl ?_
  refine J_aload_n Z.1 0 dX13_folds_37 rfl rfl ?_
  refine J_get (v := va_rf (hR h this 19)) Z.1 dX13_folds_38 fl_X13_31 t0 rfl ?_
  refine J_tr (fun r1 er1 => ?_)
  replace hf := lt_i hf r1 er1
  refine J_iconst Z.1 (v := 0) (by decide) dX13_folds_41 ?_
  replace hf := nn_i hf
  obtain ⟨a1, rfl, hf⟩ := hf
  replace hf := tg_i hf
  obtain ⟨t2, hf⟩ := hf
  replace hf := ix_i hf
  obtain ⟨i3, hf⟩ := hf
  refine J_iaload Z.1 dX13_folds_42 t2 i3 ?_
  refine J_icmp_ge Z.1 60 dX13_folds_43 (by decide) (fun c4 => ?_) (fun c4 => ?_)
  · rw [if_pos c4] at hf
    refine J_aload_n Z.1 0 dX13_folds_60 rfl rfl ?_
    refine J_get (v := va_rf (hR h this 20)) Z.1 dX13_folds_61 fl_X13_34 t0 rfl ?_
    refine J_tr (fun r5 er5 => ?_)
    replace hf := lt_i hf r5 er5
    refine J_bipush Z.1 (v := 96) (by decide) dX13_folds_64 ?_
    refine J_aload_n Z.1 0 dX13_folds_66 rfl rfl ?_
    refine J_iload_n Z.1 1 dX13_folds_67 rfl rfl ?_
    refine J_iconst Z.1 (v := 5) (by decide) dX13_folds_68 ?_
    replace hf := bd_i hf
    obtain ⟨x6, q7, hf⟩ := hf
    refine J_callV (ci := 11) (as := [.int p1, .int 5]) (rest := [.int 96, va_rf r5]) (sy := [.int x6, .int 96, va_rf r5]) Z.1 dX13_folds_69 cw_X13_381 (pX13_at_ok G (dk - 1) (by omega) q7) rfl rfl t0 (zG Z) rfl (by simp [cat_i, cat_l, cat_d, cat_rf]) (zF Z (by omega)) (zO Z (by omega) (by decide)) (zM _) Z.2.1 Z.2.1 rfl rfl ?_
    refine J_iadd Z.1 dX13_folds_72 ?_
    refine J_aload_n Z.1 0 dX13_folds_73 rfl rfl ?_
    refine J_iload_n Z.1 3 dX13_folds_74 rfl rfl ?_
    refine J_aload_n Z.1 0 dX13_folds_75 rfl rfl ?_
    refine J_get (v := va_rf (hR h this 19)) Z.1 dX13_folds_76 fl_X13_31 t0 rfl ?_
    refine J_tr (fun r8 er8 => ?_)
    replace hf := lt_i hf r8 er8
    refine J_iconst Z.1 (v := 0) (by decide) dX13_folds_79 ?_
    replace hf := nn_i hf
    obtain ⟨a8, rfl, hf⟩ := hf
    replace hf := tg_i hf
    obtain ⟨t9, hf⟩ := hf
    replace hf := ix_i hf
    obtain ⟨i10, hf⟩ := hf
    refine J_iaload Z.1 dX13_folds_80 t9 i10 ?_
    refine J_aload_n Z.1 0 dX13_folds_81 rfl rfl ?_
    refine J_iload_n Z.1 1 dX13_folds_82 rfl rfl ?_
    refine J_iconst Z.1 (v := 0) (by decide) dX13_folds_83 ?_
    replace hf := bd_i hf
    obtain ⟨x11, q12, hf⟩ := hf
    refine J_callV (ci := 11) (as := [.int p1, .int 0]) (rest := [.int (hI h a8 (Int32.toNatClampNeg 0)), .int l3, va_rf (some this), .int (96 + x6), va_rf r5]) (sy := [.int x11, .int (hI h a8 (Int32.toNatClampNeg 0)), .int l3, va_rf (some this), .int (96 + x6), va_rf r5]) Z.1 dX13_folds_84 cw_X13_381 (pX13_at_ok G (dk - 1) (by omega) q12) rfl rfl t0 (zG Z) rfl (by simp [cat_i, cat_l, cat_d, cat_rf]) (zF Z (by omega)) (zO Z (by omega) (by decide)) (zM _) Z.2.1 Z.2.1 rfl rfl ?_
    refine J_bipush Z.1 (v := 23) (by decide) dX13_folds_87 ?_
    refine J_icmp_ne Z.1 96 dX13_folds_89 (by decide) (fun c13 => ?_) (fun c13 => ?_)
    · rw [if_neg c13] at hf
      refine J_iconst Z.1 (v := 0) (by decide) dX13_folds_96 ?_
      refine J_lv [0, 1, 2] rfl ?_
      exact pX13_folds_b97_ok Z hK t0  _ _ _ _ _ _ _ hf
    · rw [if_pos c13] at hf
      refine J_iconst Z.1 (v := 1) (by decide) dX13_folds_92 ?_
      refine J_goto Z.1 97 dX13_folds_93 (by decide) ?_
      refine J_lv [0, 1, 2] rfl ?_
      exact pX13_folds_b97_ok Z hK t0  _ _ _ _ _ _ _ hf
  · rw [if_neg c4] at hf
    refine J_aload_n Z.1 0 dX13_folds_46 rfl rfl ?_
    refine J_iload_n Z.1 3 dX13_folds_47 rfl rfl ?_
    refine J_iload Z.1 4 dX13_folds_48 rfl ?_
    refine J_iload_n Z.1 2 dX13_folds_50 rfl rfl ?_
    replace hf := bd_i hf
    obtain ⟨h14, q15, hf⟩ := hf
    refine J_callV (ci := 11) (as := [.int l3, .int l4, .int p2]) (rest := []) (sy := []) Z.1 dX13_folds_51 cw_X13_444 (pX13_reads_ok G (dk - 1) (by omega) q15) rfl rfl t0 (zG Z) rfl (by decide) (zF Z (by omega)) (zO Z (by omega) (by decide)) (zM _) Z.2.1 Z.2.1 rfl rfl ?_
    refine J_iinc Z.1 (v := 1) (lv2 := [(4, .int (l4 + 1)), (0, va_rf (some this)), (1, .int p1), (2, .int p2), (3, .int l3)]) 4 dX13_folds_54 rfl (by decide) (zL Z (by decide)) rfl ?_
    obtain ⟨x16, ex16⟩ : ∃ z, z = (l4 + 1) := ⟨_, rfl⟩
    replace hf := lt_i hf x16 ex16
    rw [← ex16]
    refine J_goto Z.1 35 dX13_folds_57 (by decide) ?_
    refine J_lv [1, 2, 3, 4, 0] rfl ?_
    exact hk35 _ _ _ hf
def pX13_folds_l35 (g : MT) (this : Nat) (p1 : Int32) (p2 : Int32) : Nat → Int32 → Int32 → CT → Option CT
  | 0, _, _, _ => none
  | n + 1, l3, l4, h => pX13_folds_b35 g this p1 p2 (pX13_folds_l35 g this p1 p2 n) l3 l4 h
theorem pX13_folds_l35_ok {X : Cx} {G : Gx} {dk : Nat} {g : MT} {h0 : CT} {this : Nat} {p1 : Int32} {p2 : Int32} (Z : Zx X G cX13_folds RX13 5 dk none none g h0) (hK : 3 ≤ dk) (t0 : gT g this = 12) : ∀ (n : Nat) (l3 : Int32) (l4 : Int32) (h : CT), pX13_folds_l35 g this p1 p2 n l3 l4 h = some h0 → J X g h 35 [(0, va_rf (some this)), (1, .int p1), (2, .int p2), (3, .int l3), (4, .int l4)] [] := by
  intro n
  induction n with
  | zero => intro l3 l4 h hf; cases hf
  | succ n ih => intro l3 l4 h hf; exact pX13_folds_b35_ok Z hK t0 ih l3 l4 h hf
def pX13_folds_b32 (g : MT) (this : Nat) (p1 : Int32) (p2 : Int32) (l3 : Int32) (h : CT) : Option CT := pX13_folds_l35 g this p1 p2  FUEL l3 0 h
set_option maxRecDepth 10000 in
set_option maxHeartbeats 4000000 in
theorem pX13_folds_b32_ok {X : Cx} {G : Gx} {dk : Nat} {g : MT} {h0 : CT} {this : Nat} {p1 : Int32} {p2 : Int32} (Z : Zx X G cX13_folds RX13 5 dk none none g h0) (hK : 3 ≤ dk) (t0 : gT g this = 12) (l3 : Int32) (h : CT) (hf : pX13_folds_b32 g this p1 p2 l3 h = some h0) : J X g h 32 [(0, va_rf (some this)), (1, .int p1), (2, .int p2), (3, .int l3)] [] := by
  unfold pX13_folds_b32 at hf
  refine J_iconst Z.1 (v := 0) (by decide) dX13_folds_32 ?_
  refine J_istore Z.1 (lv2 := [(4, .int 0), (0, va_rf (some this)), (1, .int p1), (2, .int p2), (3, .int l3)]) dX13_folds_33 (zL Z (by decide)) rfl ?_
  refine J_lv [1, 2, 3, 4, 0] rfl ?_
  exact pX13_folds_l35_ok Z hK t0  FUEL _ _ _ hf
def pX13_folds (g : MT) (h : CT) (this : Nat) (p1 : Int32) (p2 : Int32) : Option CT := tg g this 12 (bd (pX13_at g h this p1 1) fun x1 => (lt (hR h this 19) fun r3 => (nn r3 fun a3 => (tg g a3 20 (ix (gL g a3) 0 (if (hI h a3 (Int32.toNatClampNeg 0)) ≤ 0 then pX13_folds_b32 g this p1 p2  x1 h else bd (pX13_misses g h this x1) fun x7 => (if x7 = 0 then pX13_folds_b32 g this p1 p2  x1 h else bd (pX13_traps g h this 2 p1 0) fun h10 => (some h10))))))))
set_option maxRecDepth 10000 in
set_option maxHeartbeats 4000000 in
theorem pX13_folds_ok (G : Gx) (dk : Nat) (hK : 3 ≤ dk) {g : MT} {h h0 : CT} {this : Nat} {p1 : Int32} {p2 : Int32} (hf : pX13_folds g h this p1 p2 = some h0) : Ctr G dk yX13_folds cX13_folds 5 none [va_rf (some this), .int p1, .int p2] g h none g h0 := by
  refine Ctr.ofZ (lv := [(0, va_rf (some this)), (1, .int p1), (2, .int p2)]) (by decide +kernel) (by simp [cat_i, cat_l, cat_d, cat_rf]) rfl fun X Z => ?_
  unfold pX13_folds at hf
  replace hf := tg_i hf
  obtain ⟨t0, hf⟩ := hf
  refine J_aload_n Z.1 0 dX13_folds_0 rfl rfl ?_
  refine J_iload_n Z.1 1 dX13_folds_1 rfl rfl ?_
  refine J_iconst Z.1 (v := 1) (by decide) dX13_folds_2 ?_
  replace hf := bd_i hf
  obtain ⟨x1, q2, hf⟩ := hf
  refine J_callV (ci := 11) (as := [.int p1, .int 1]) (rest := []) (sy := [.int x1]) Z.1 dX13_folds_3 cw_X13_381 (pX13_at_ok G (dk - 1) (by omega) q2) rfl rfl t0 (zG Z) rfl (by decide) (zF Z (by omega)) (zO Z (by omega) (by decide)) (zM _) Z.2.1 Z.2.1 rfl rfl ?_
  refine J_istore_n Z.1 (lv2 := [(3, .int x1), (0, va_rf (some this)), (1, .int p1), (2, .int p2)]) dX13_folds_6 rfl (zL Z (by decide)) rfl ?_
  refine J_aload_n Z.1 1 dX13_folds_7 rfl rfl ?_
  refine J_get (v := va_rf (hR h this 19)) Z.1 dX13_folds_8 fl_X13_31 t0 rfl ?_
  refine J_tr (fun r3 er3 => ?_)
  replace hf := lt_i hf r3 er3
  refine J_iconst Z.1 (v := 0) (by decide) dX13_folds_11 ?_
  replace hf := nn_i hf
  obtain ⟨a3, rfl, hf⟩ := hf
  replace hf := tg_i hf
  obtain ⟨t4, hf⟩ := hf
  replace hf := ix_i hf
  obtain ⟨i5, hf⟩ := hf
  refine J_iaload Z.1 dX13_folds_12 t4 i5 ?_
  refine J_if_le Z.1 32 dX13_folds_13 (by decide) (fun c6 => ?_) (fun c6 => ?_)
  · rw [if_pos c6] at hf
    refine J_lv [1, 2, 3, 0] rfl ?_
    exact pX13_folds_b32_ok Z hK t0  _ _ hf
  · rw [if_neg c6] at hf
    refine J_aload_n Z.1 1 dX13_folds_16 rfl rfl ?_
    refine J_iload_n Z.1 0 dX13_folds_17 rfl rfl ?_
    replace hf := bd_i hf
    obtain ⟨x7, q8, hf⟩ := hf
    refine J_callV (ci := 11) (as := [.int x1]) (rest := []) (sy := [.int x7]) Z.1 dX13_folds_18 cw_X13_386 (pX13_misses_ok G (dk - 1) (by omega) q8) rfl rfl t0 (zG Z) rfl (by decide) (zF Z (by omega)) (zO Z (by omega) (by decide)) (zM _) Z.2.1 Z.2.1 rfl rfl ?_
    refine J_if_eq Z.1 32 dX13_folds_21 (by decide) (fun c9 => ?_) (fun c9 => ?_)
    · rw [if_pos c9] at hf
      refine J_lv [1, 2, 3, 0] rfl ?_
      exact pX13_folds_b32_ok Z hK t0  _ _ hf
    · rw [if_neg c9] at hf
      refine J_aload_n Z.1 1 dX13_folds_24 rfl rfl ?_
      refine J_iconst Z.1 (v := 2) (by decide) dX13_folds_25 ?_
      refine J_iload_n Z.1 2 dX13_folds_26 rfl rfl ?_
      refine J_iconst Z.1 (v := 0) (by decide) dX13_folds_27 ?_
      replace hf := bd_i hf
      obtain ⟨h10, q11, hf⟩ := hf
      refine J_callV (ci := 11) (as := [.int 2, .int p1, .int 0]) (rest := []) (sy := []) Z.1 dX13_folds_28 cw_X13_424 (pX13_traps_ok G (dk - 1) (by omega) q11) rfl rfl t0 (zG Z) rfl (by decide) (zF Z (by omega)) (zO Z (by omega) (by decide)) (zM _) Z.2.1 Z.2.1 rfl rfl ?_
      cases hf
      exact J_vret Z.1 Z.2.2.2.2.2 dX13_folds_31
theorem dX13_strips_0 : decode cX13_strips 0 = .ok (.aload_n 0, 1) := by decide +kernel
theorem dX13_strips_1 : decode cX13_strips 1 = .ok (.getfield 31, 3) := by decide +kernel
theorem dX13_strips_4 : decode cX13_strips 4 = .ok (.iconst 0, 1) := by decide +kernel
theorem dX13_strips_5 : decode cX13_strips 5 = .ok (.iaload, 1) := by decide +kernel
theorem dX13_strips_6 : decode cX13_strips 6 = .ok (.istore_n 2, 1) := by decide +kernel
theorem dX13_strips_7 : decode cX13_strips 7 = .ok (.aload_n 0, 1) := by decide +kernel
theorem dX13_strips_8 : decode cX13_strips 8 = .ok (.iload_n 1, 1) := by decide +kernel
theorem dX13_strips_9 : decode cX13_strips 9 = .ok (.iconst 4, 1) := by decide +kernel
theorem dX13_strips_10 : decode cX13_strips 10 = .ok (.invokevirtual 381, 3) := by decide +kernel
theorem dX13_strips_13 : decode cX13_strips 13 = .ok (.istore_n 3, 1) := by decide +kernel
theorem dX13_strips_14 : decode cX13_strips 14 = .ok (.aload_n 0, 1) := by decide +kernel
theorem dX13_strips_15 : decode cX13_strips 15 = .ok (.iconst 0, 1) := by decide +kernel
theorem dX13_strips_16 : decode cX13_strips 16 = .ok (.putfield 418, 3) := by decide +kernel
theorem dX13_strips_19 : decode cX13_strips 19 = .ok (.iload_n 3, 1) := by decide +kernel
theorem dX13_strips_20 : decode cX13_strips 20 = .ok (.ifCond .le 78, 3) := by decide +kernel
theorem dX13_strips_23 : decode cX13_strips 23 = .ok (.aload_n 0, 1) := by decide +kernel
theorem dX13_strips_24 : decode cX13_strips 24 = .ok (.getfield 378, 3) := by decide +kernel
theorem dX13_strips_27 : decode cX13_strips 27 = .ok (.ifCond .ne 71, 3) := by decide +kernel
theorem dX13_strips_30 : decode cX13_strips 30 = .ok (.aload_n 0, 1) := by decide +kernel
theorem dX13_strips_31 : decode cX13_strips 31 = .ok (.getfield 31, 3) := by decide +kernel
theorem dX13_strips_34 : decode cX13_strips 34 = .ok (.iconst 0, 1) := by decide +kernel
theorem dX13_strips_35 : decode cX13_strips 35 = .ok (.bipush 16, 2) := by decide +kernel
theorem dX13_strips_37 : decode cX13_strips 37 = .ok (.iload_n 3, 1) := by decide +kernel
theorem dX13_strips_38 : decode cX13_strips 38 = .ok (.invokestatic 527, 3) := by decide +kernel
theorem dX13_strips_41 : decode cX13_strips 41 = .ok (.iastore, 1) := by decide +kernel
theorem dX13_strips_42 : decode cX13_strips 42 = .ok (.aload_n 0, 1) := by decide +kernel
theorem dX13_strips_43 : decode cX13_strips 43 = .ok (.iload_n 1, 1) := by decide +kernel
theorem dX13_strips_44 : decode cX13_strips 44 = .ok (.iconst 1, 1) := by decide +kernel
theorem dX13_strips_45 : decode cX13_strips 45 = .ok (.iadd, 1) := by decide +kernel
theorem dX13_strips_46 : decode cX13_strips 46 = .ok (.aload_n 0, 1) := by decide +kernel
theorem dX13_strips_47 : decode cX13_strips 47 = .ok (.iload_n 1, 1) := by decide +kernel
theorem dX13_strips_48 : decode cX13_strips 48 = .ok (.bipush 7, 2) := by decide +kernel
theorem dX13_strips_50 : decode cX13_strips 50 = .ok (.invokevirtual 381, 3) := by decide +kernel
theorem dX13_strips_53 : decode cX13_strips 53 = .ok (.invokevirtual 529, 3) := by decide +kernel
theorem dX13_strips_56 : decode cX13_strips 56 = .ok (.aload_n 0, 1) := by decide +kernel
theorem dX13_strips_57 : decode cX13_strips 57 = .ok (.getfield 378, 3) := by decide +kernel
theorem dX13_strips_60 : decode cX13_strips 60 = .ok (.ifCond .eq 4, 3) := by decide +kernel
theorem dX13_strips_63 : decode cX13_strips 63 = .ok (.return_, 1) := by decide +kernel
theorem dX13_strips_64 : decode cX13_strips 64 = .ok (.aload_n 0, 1) := by decide +kernel
theorem dX13_strips_65 : decode cX13_strips 65 = .ok (.aload_n 0, 1) := by decide +kernel
theorem dX13_strips_66 : decode cX13_strips 66 = .ok (.getfield 398, 3) := by decide +kernel
theorem dX13_strips_69 : decode cX13_strips 69 = .ok (.iconst 1, 1) := by decide +kernel
theorem dX13_strips_70 : decode cX13_strips 70 = .ok (.iadd, 1) := by decide +kernel
theorem dX13_strips_71 : decode cX13_strips 71 = .ok (.aload_n 0, 1) := by decide +kernel
theorem dX13_strips_72 : decode cX13_strips 72 = .ok (.getfield 401, 3) := by decide +kernel
theorem dX13_strips_75 : decode cX13_strips 75 = .ok (.invokestatic 178, 3) := by decide +kernel
theorem dX13_strips_78 : decode cX13_strips 78 = .ok (.invokevirtual 503, 3) := by decide +kernel
theorem dX13_strips_81 : decode cX13_strips 81 = .ok (.iinc 3 (-16), 3) := by decide +kernel
theorem dX13_strips_84 : decode cX13_strips 84 = .ok (.aload_n 0, 1) := by decide +kernel
theorem dX13_strips_85 : decode cX13_strips 85 = .ok (.dup, 1) := by decide +kernel
theorem dX13_strips_86 : decode cX13_strips 86 = .ok (.getfield 418, 3) := by decide +kernel
theorem dX13_strips_89 : decode cX13_strips 89 = .ok (.bipush 16, 2) := by decide +kernel
theorem dX13_strips_91 : decode cX13_strips 91 = .ok (.iadd, 1) := by decide +kernel
theorem dX13_strips_92 : decode cX13_strips 92 = .ok (.putfield 418, 3) := by decide +kernel
theorem dX13_strips_95 : decode cX13_strips 95 = .ok (.goto (-76), 3) := by decide +kernel
theorem dX13_strips_98 : decode cX13_strips 98 = .ok (.aload_n 0, 1) := by decide +kernel
theorem dX13_strips_99 : decode cX13_strips 99 = .ok (.getfield 31, 3) := by decide +kernel
theorem dX13_strips_102 : decode cX13_strips 102 = .ok (.iconst 0, 1) := by decide +kernel
theorem dX13_strips_103 : decode cX13_strips 103 = .ok (.iload_n 2, 1) := by decide +kernel
theorem dX13_strips_104 : decode cX13_strips 104 = .ok (.iastore, 1) := by decide +kernel
theorem dX13_strips_105 : decode cX13_strips 105 = .ok (.aload_n 0, 1) := by decide +kernel
theorem dX13_strips_106 : decode cX13_strips 106 = .ok (.iconst 0, 1) := by decide +kernel
theorem dX13_strips_107 : decode cX13_strips 107 = .ok (.putfield 418, 3) := by decide +kernel
theorem dX13_strips_110 : decode cX13_strips 110 = .ok (.return_, 1) := by decide +kernel
def pX13_strips_b98 (g : MT) (fO : CT → Nat → Int32 → Int32 → Option CT) (this : Nat) (p1 : Int32) (l2 : Int32) (h : CT) : Option CT := lt (hR h this 19) fun r1 => (nn r1 fun a1 => (tg g a1 20 (ix (gL g a1) 0 (lt (sI h a1 (Int32.toNatClampNeg 0) l2) fun h4 => (lt (sI h4 this 33 0) fun h5 => (some h5))))))
set_option maxRecDepth 10000 in
set_option maxHeartbeats 4000000 in
theorem pX13_strips_b98_ok {X : Cx} {G : Gx} {dk : Nat} {g : MT} {h0 : CT} {this : Nat} {p1 : Int32} (Z : Zx X G cX13_strips RX13 4 dk none none g h0) (hK : 3 ≤ dk) {fO : CT → Nat → Int32 → Int32 → Option CT} {KO : Nat} (hO : ∀ (d : Nat), KO ≤ d → ∀ (h : CT) (this : Nat) (p1 : Int32) (p2 : Int32) (h1 : CT), fO h this p1 p2 = some h1 → Ctr G d yX13_doAll cX13_doAll 4 none [va_rf (some this), .int p1, .int p2] g h none g h1) (hKO : KO + 1 ≤ dk) (t0 : gT g this = 12) (l2 : Int32) (h : CT) (hf : pX13_strips_b98 g fO this p1 l2 h = some h0) : J X g h 98 [(0, va_rf (some this)), (2, .int l2)] [] := by
  unfold pX13_strips_b98 at hf
  refine J_aload_n Z.1 0 dX13_strips_98 rfl rfl ?_
  refine J_get (v := va_rf (hR h this 19)) Z.1 dX13_strips_99 fl_X13_31 t0 rfl ?_
  refine J_tr (fun r1 er1 => ?_)
  replace hf := lt_i hf r1 er1
  refine J_iconst Z.1 (v := 0) (by decide) dX13_strips_102 ?_
  refine J_iload_n Z.1 1 dX13_strips_103 rfl rfl ?_
  replace hf := nn_i hf
  obtain ⟨a1, rfl, hf⟩ := hf
  replace hf := tg_i hf
  obtain ⟨t2, hf⟩ := hf
  replace hf := ix_i hf
  obtain ⟨i3, hf⟩ := hf
  refine J_iastore Z.1 dX13_strips_104 t2 i3 ?_
  refine J_th (fun h4 eh4 => ?_)
  replace hf := lt_i hf h4 eh4
  refine J_aload_n Z.1 0 dX13_strips_105 rfl rfl ?_
  refine J_iconst Z.1 (v := 0) (by decide) dX13_strips_106 ?_
  refine J_putI Z.1 dX13_strips_107 fl_X13_418 (fun q => by cases q) t0 rfl rfl (congrArg Value.int (hI_s _ _ _ _)) ?_
  refine J_th (fun h5 eh5 => ?_)
  replace hf := lt_i hf h5 eh5
  cases hf
  exact J_vret Z.1 Z.2.2.2.2.2 dX13_strips_110
def pX13_strips_b19 (g : MT) (fO : CT → Nat → Int32 → Int32 → Option CT) (this : Nat) (p1 : Int32) (k19 : Int32 → Int32 → CT → Option CT) (l2 : Int32) (l3 : Int32) (h : CT) : Option CT := if l3 ≤ 0 then pX13_strips_b98 g fO this p1  l2 h else if (hI h this 40) = 0 then lt (hR h this 19) fun r3 => (nn r3 fun a3 => (tg g a3 20 (ix (gL g a3) 0 (lt (sI h a3 (Int32.toNatClampNeg 0) (pJ9_min_7cf53 16 l3)) fun h6 => (bd (pX13_at g h6 this p1 7) fun x7 => (bd (fO h6 this (p1 + 1) x7) fun h9 => (if (hI h9 this 40) = 0 then bd (pX13_begins g h9 this (pJ9_max_7cf53 ((hI h9 this 32) + 1) (hI h9 this 31))) fun h12 => (lt (l3 + (-16)) fun x14 => (lt (sI h12 this 33 ((hI h12 this 33) + 16)) fun h15 => (k19 l2 x14 h15))) else some h9))))))) else pX13_strips_b98 g fO this p1  l2 h
set_option maxRecDepth 10000 in
set_option maxHeartbeats 4000000 in
theorem pX13_strips_b19_ok {X : Cx} {G : Gx} {dk : Nat} {g : MT} {h0 : CT} {this : Nat} {p1 : Int32} {k19 : Int32 → Int32 → CT → Option CT} (Z : Zx X G cX13_strips RX13 4 dk none none g h0) (hK : 3 ≤ dk) {fO : CT → Nat → Int32 → Int32 → Option CT} {KO : Nat} (hO : ∀ (d : Nat), KO ≤ d → ∀ (h : CT) (this : Nat) (p1 : Int32) (p2 : Int32) (h1 : CT), fO h this p1 p2 = some h1 → Ctr G d yX13_doAll cX13_doAll 4 none [va_rf (some this), .int p1, .int p2] g h none g h1) (hKO : KO + 1 ≤ dk) (t0 : gT g this = 12) (hk19 : ∀ (l2 : Int32) (l3 : Int32) (h : CT), k19 l2 l3 h = some h0 → J X g h 19 [(0, va_rf (some this)), (1, .int p1), (2, .int l2), (3, .int l3)] []) (l2 : Int32) (l3 : Int32) (h : CT) (hf : pX13_strips_b19 g fO this p1 k19 l2 l3 h = some h0) : J X g h 19 [(0, va_rf (some this)), (1, .int p1), (2, .int l2), (3, .int l3)] [] := by
  unfold pX13_strips_b19 at hf
  refine J_iload_n Z.1 3 dX13_strips_19 rfl rfl ?_
  refine J_if_le Z.1 98 dX13_strips_20 (by decide) (fun c1 => ?_) (fun c1 => ?_)
  · rw [if_pos c1] at hf
    refine J_lv [0, 2] rfl ?_
    exact pX13_strips_b98_ok Z hK hO hKO t0  _ _ hf
  · rw [if_neg c1] at hf
    refine J_aload_n Z.1 0 dX13_strips_23 rfl rfl ?_
    refine J_get (v := .int (hI h this 40)) Z.1 dX13_strips_24 fl_X13_378 t0 rfl ?_
    refine J_if_ne Z.1 98 dX13_strips_27 (by decide) (fun c2 => ?_) (fun c2 => ?_)
    · rw [if_neg c2] at hf
      refine J_lv [0, 2] rfl ?_
      exact pX13_strips_b98_ok Z hK hO hKO t0  _ _ hf
    · rw [if_pos c2] at hf
      refine J_aload_n Z.1 0 dX13_strips_30 rfl rfl ?_
      refine J_get (v := va_rf (hR h this 19)) Z.1 dX13_strips_31 fl_X13_31 t0 rfl ?_
      refine J_tr (fun r3 er3 => ?_)
      replace hf := lt_i hf r3 er3
      refine J_iconst Z.1 (v := 0) (by decide) dX13_strips_34 ?_
      refine J_bipush Z.1 (v := 16) (by decide) dX13_strips_35 ?_
      refine J_iload_n Z.1 3 dX13_strips_37 rfl rfl ?_
      refine J_callS (as := [.int 16, .int l3]) (rest := [.int 0, va_rf r3]) (sy := [.int (pJ9_min_7cf53 16 l3), .int 0, va_rf r3]) Z.1 dX13_strips_38 cw_X13_527 (pJ9_min_7cf53_ok G (dk - 1) (by omega) g h 16 l3) (zG Z) rfl (by simp [cat_i, cat_l, cat_d, cat_rf]) (zF Z (by omega)) (zO Z (by omega) (by decide)) (zM _) Z.2.1 Z.2.1 rfl rfl ?_
      replace hf := nn_i hf
      obtain ⟨a3, rfl, hf⟩ := hf
      replace hf := tg_i hf
      obtain ⟨t4, hf⟩ := hf
      replace hf := ix_i hf
      obtain ⟨i5, hf⟩ := hf
      refine J_iastore Z.1 dX13_strips_41 t4 i5 ?_
      refine J_th (fun h6 eh6 => ?_)
      replace hf := lt_i hf h6 eh6
      refine J_aload_n Z.1 0 dX13_strips_42 rfl rfl ?_
      refine J_iload_n Z.1 1 dX13_strips_43 rfl rfl ?_
      refine J_iconst Z.1 (v := 1) (by decide) dX13_strips_44 ?_
      refine J_iadd Z.1 dX13_strips_45 ?_
      refine J_aload_n Z.1 0 dX13_strips_46 rfl rfl ?_
      refine J_iload_n Z.1 1 dX13_strips_47 rfl rfl ?_
      refine J_bipush Z.1 (v := 7) (by decide) dX13_strips_48 ?_
      replace hf := bd_i hf
      obtain ⟨x7, q8, hf⟩ := hf
      refine J_callV (ci := 11) (as := [.int p1, .int 7]) (rest := [.int (p1 + 1), va_rf (some this)]) (sy := [.int x7, .int (p1 + 1), va_rf (some this)]) Z.1 dX13_strips_50 cw_X13_381 (pX13_at_ok G (dk - 1) (by omega) q8) rfl rfl t0 (zG Z) rfl (by simp [cat_i, cat_l, cat_d, cat_rf]) (zF Z (by omega)) (zO Z (by omega) (by decide)) (zM _) Z.2.1 Z.2.1 rfl rfl ?_
      replace hf := bd_i hf
      obtain ⟨h9, q10, hf⟩ := hf
      refine J_callV (ci := 11) (as := [.int (p1 + 1), .int x7]) (rest := []) (sy := []) Z.1 dX13_strips_53 cw_X13_529 (hO (dk - 1) (by omega) _ _ _ _ _ q10) rfl rfl t0 (zG Z) rfl (by decide) (zF Z (by omega)) (zO Z (by omega) (by decide)) (zM _) Z.2.1 Z.2.1 rfl rfl ?_
      refine J_aload_n Z.1 0 dX13_strips_56 rfl rfl ?_
      refine J_get (v := .int (hI h9 this 40)) Z.1 dX13_strips_57 fl_X13_378 t0 rfl ?_
      refine J_if_eq Z.1 64 dX13_strips_60 (by decide) (fun c11 => ?_) (fun c11 => ?_)
      · rw [if_pos c11] at hf
        refine J_aload_n Z.1 0 dX13_strips_64 rfl rfl ?_
        refine J_aload_n Z.1 0 dX13_strips_65 rfl rfl ?_
        refine J_get (v := .int (hI h9 this 32)) Z.1 dX13_strips_66 fl_X13_398 t0 rfl ?_
        refine J_iconst Z.1 (v := 1) (by decide) dX13_strips_69 ?_
        refine J_iadd Z.1 dX13_strips_70 ?_
        refine J_aload_n Z.1 0 dX13_strips_71 rfl rfl ?_
        refine J_get (v := .int (hI h9 this 31)) Z.1 dX13_strips_72 fl_X13_401 t0 rfl ?_
        refine J_callS (as := [.int ((hI h9 this 32) + 1), .int (hI h9 this 31)]) (rest := [va_rf (some this)]) (sy := [.int (pJ9_max_7cf53 ((hI h9 this 32) + 1) (hI h9 this 31)), va_rf (some this)]) Z.1 dX13_strips_75 cw_X13_178 (pJ9_max_7cf53_ok G (dk - 1) (by omega) g h9 ((hI h9 this 32) + 1) (hI h9 this 31)) (zG Z) rfl (by simp [cat_i, cat_l, cat_d, cat_rf]) (zF Z (by omega)) (zO Z (by omega) (by decide)) (zM _) Z.2.1 Z.2.1 rfl rfl ?_
        replace hf := bd_i hf
        obtain ⟨h12, q13, hf⟩ := hf
        refine J_callV (ci := 11) (as := [.int (pJ9_max_7cf53 ((hI h9 this 32) + 1) (hI h9 this 31))]) (rest := []) (sy := []) Z.1 dX13_strips_78 cw_X13_503 (pX13_begins_ok G (dk - 1) (by omega) q13) rfl rfl t0 (zG Z) rfl (by decide) (zF Z (by omega)) (zO Z (by omega) (by decide)) (zM _) Z.2.1 Z.2.1 rfl rfl ?_
        refine J_iinc Z.1 (v := (-16)) (lv2 := [(3, .int (l3 + (-16))), (0, va_rf (some this)), (1, .int p1), (2, .int l2)]) 3 dX13_strips_81 rfl (by decide) (zL Z (by decide)) rfl ?_
        obtain ⟨x14, ex14⟩ : ∃ z, z = (l3 + (-16)) := ⟨_, rfl⟩
        replace hf := lt_i hf x14 ex14
        rw [← ex14]
        refine J_aload_n Z.1 1 dX13_strips_84 rfl rfl ?_
        refine J_dup Z.1 dX13_strips_85 rfl ?_
        refine J_get (v := .int (hI h12 this 33)) Z.1 dX13_strips_86 fl_X13_418 t0 rfl ?_
        refine J_bipush Z.1 (v := 16) (by decide) dX13_strips_89 ?_
        refine J_iadd Z.1 dX13_strips_91 ?_
        refine J_putI Z.1 dX13_strips_92 fl_X13_418 (fun q => by cases q) t0 rfl rfl (congrArg Value.int (hI_s _ _ _ _)) ?_
        refine J_th (fun h15 eh15 => ?_)
        replace hf := lt_i hf h15 eh15
        refine J_goto Z.1 19 dX13_strips_95 (by decide) ?_
        refine J_lv [1, 2, 3, 0] rfl ?_
        exact hk19 _ _ _ hf
      · rw [if_neg c11] at hf
        cases hf
        exact J_vret Z.1 Z.2.2.2.2.2 dX13_strips_63
def pX13_strips_l19 (g : MT) (fO : CT → Nat → Int32 → Int32 → Option CT) (this : Nat) (p1 : Int32) : Nat → Int32 → Int32 → CT → Option CT
  | 0, _, _, _ => none
  | n + 1, l2, l3, h => pX13_strips_b19 g fO this p1 (pX13_strips_l19 g fO this p1 n) l2 l3 h
theorem pX13_strips_l19_ok {X : Cx} {G : Gx} {dk : Nat} {g : MT} {h0 : CT} {this : Nat} {p1 : Int32} (Z : Zx X G cX13_strips RX13 4 dk none none g h0) (hK : 3 ≤ dk) {fO : CT → Nat → Int32 → Int32 → Option CT} {KO : Nat} (hO : ∀ (d : Nat), KO ≤ d → ∀ (h : CT) (this : Nat) (p1 : Int32) (p2 : Int32) (h1 : CT), fO h this p1 p2 = some h1 → Ctr G d yX13_doAll cX13_doAll 4 none [va_rf (some this), .int p1, .int p2] g h none g h1) (hKO : KO + 1 ≤ dk) (t0 : gT g this = 12) : ∀ (n : Nat) (l2 : Int32) (l3 : Int32) (h : CT), pX13_strips_l19 g fO this p1 n l2 l3 h = some h0 → J X g h 19 [(0, va_rf (some this)), (1, .int p1), (2, .int l2), (3, .int l3)] [] := by
  intro n
  induction n with
  | zero => intro l2 l3 h hf; cases hf
  | succ n ih => intro l2 l3 h hf; exact pX13_strips_b19_ok Z hK hO hKO t0 ih l2 l3 h hf
def pX13_strips (g : MT) (fO : CT → Nat → Int32 → Int32 → Option CT) (h : CT) (this : Nat) (p1 : Int32) : Option CT := tg g this 12 (lt (hR h this 19) fun r1 => (nn r1 fun a1 => (tg g a1 20 (ix (gL g a1) 0 (lt (hI h a1 (Int32.toNatClampNeg 0)) fun x4 => (bd (pX13_at g h this p1 4) fun x5 => (lt (sI h this 33 0) fun h7 => (pX13_strips_l19 g fO this p1  FUEL x4 x5 h7))))))))
set_option maxRecDepth 10000 in
set_option maxHeartbeats 4000000 in
theorem pX13_strips_ok (G : Gx) (dk : Nat) (hK : 3 ≤ dk) {g : MT} {fO : CT → Nat → Int32 → Int32 → Option CT} {KO : Nat} (hO : ∀ (d : Nat), KO ≤ d → ∀ (h : CT) (this : Nat) (p1 : Int32) (p2 : Int32) (h1 : CT), fO h this p1 p2 = some h1 → Ctr G d yX13_doAll cX13_doAll 4 none [va_rf (some this), .int p1, .int p2] g h none g h1) (hKO : KO + 1 ≤ dk) {h h0 : CT} {this : Nat} {p1 : Int32} (hf : pX13_strips g fO h this p1 = some h0) : Ctr G dk yX13_strips cX13_strips 4 none [va_rf (some this), .int p1] g h none g h0 := by
  refine Ctr.ofZ (lv := [(0, va_rf (some this)), (1, .int p1)]) (by decide +kernel) (by simp [cat_i, cat_l, cat_d, cat_rf]) rfl fun X Z => ?_
  unfold pX13_strips at hf
  replace hf := tg_i hf
  obtain ⟨t0, hf⟩ := hf
  refine J_aload_n Z.1 0 dX13_strips_0 rfl rfl ?_
  refine J_get (v := va_rf (hR h this 19)) Z.1 dX13_strips_1 fl_X13_31 t0 rfl ?_
  refine J_tr (fun r1 er1 => ?_)
  replace hf := lt_i hf r1 er1
  refine J_iconst Z.1 (v := 0) (by decide) dX13_strips_4 ?_
  replace hf := nn_i hf
  obtain ⟨a1, rfl, hf⟩ := hf
  replace hf := tg_i hf
  obtain ⟨t2, hf⟩ := hf
  replace hf := ix_i hf
  obtain ⟨i3, hf⟩ := hf
  refine J_iaload Z.1 dX13_strips_5 t2 i3 ?_
  refine J_ti (fun x4 ex4 => ?_)
  replace hf := lt_i hf x4 ex4
  refine J_istore_n Z.1 (lv2 := [(2, .int x4), (0, va_rf (some this)), (1, .int p1)]) dX13_strips_6 rfl (zL Z (by decide)) rfl ?_
  refine J_aload_n Z.1 1 dX13_strips_7 rfl rfl ?_
  refine J_iload_n Z.1 2 dX13_strips_8 rfl rfl ?_
  refine J_iconst Z.1 (v := 4) (by decide) dX13_strips_9 ?_
  replace hf := bd_i hf
  obtain ⟨x5, q6, hf⟩ := hf
  refine J_callV (ci := 11) (as := [.int p1, .int 4]) (rest := []) (sy := [.int x5]) Z.1 dX13_strips_10 cw_X13_381 (pX13_at_ok G (dk - 1) (by omega) q6) rfl rfl t0 (zG Z) rfl (by decide) (zF Z (by omega)) (zO Z (by omega) (by decide)) (zM _) Z.2.1 Z.2.1 rfl rfl ?_
  refine J_istore_n Z.1 (lv2 := [(3, .int x5), (2, .int x4), (0, va_rf (some this)), (1, .int p1)]) dX13_strips_13 rfl (zL Z (by decide)) rfl ?_
  refine J_aload_n Z.1 2 dX13_strips_14 rfl rfl ?_
  refine J_iconst Z.1 (v := 0) (by decide) dX13_strips_15 ?_
  refine J_putI Z.1 dX13_strips_16 fl_X13_418 (fun q => by cases q) t0 rfl rfl (congrArg Value.int (hI_s _ _ _ _)) ?_
  refine J_th (fun h7 eh7 => ?_)
  replace hf := lt_i hf h7 eh7
  refine J_lv [2, 3, 1, 0] rfl ?_
  exact pX13_strips_l19_ok Z hK hO hKO t0  FUEL _ _ _ hf
theorem dX13_doOne_0 : decode cX13_doOne 0 = .ok (.aload_n 0, 1) := by decide +kernel
theorem dX13_doOne_1 : decode cX13_doOne 1 = .ok (.iload_n 1, 1) := by decide +kernel
theorem dX13_doOne_2 : decode cX13_doOne 2 = .ok (.iconst 0, 1) := by decide +kernel
theorem dX13_doOne_3 : decode cX13_doOne 3 = .ok (.invokevirtual 381, 3) := by decide +kernel
theorem dX13_doOne_6 : decode cX13_doOne 6 = .ok (.istore_n 2, 1) := by decide +kernel
theorem dX13_doOne_7 : decode cX13_doOne 7 = .ok (.aload_n 0, 1) := by decide +kernel
theorem dX13_doOne_8 : decode cX13_doOne 8 = .ok (.iload_n 1, 1) := by decide +kernel
theorem dX13_doOne_9 : decode cX13_doOne 9 = .ok (.invokevirtual 500, 3) := by decide +kernel
theorem dX13_doOne_12 : decode cX13_doOne 12 = .ok (.istore_n 3, 1) := by decide +kernel
theorem dX13_doOne_13 : decode cX13_doOne 13 = .ok (.aload_n 0, 1) := by decide +kernel
theorem dX13_doOne_14 : decode cX13_doOne 14 = .ok (.iload_n 3, 1) := by decide +kernel
theorem dX13_doOne_15 : decode cX13_doOne 15 = .ok (.invokevirtual 503, 3) := by decide +kernel
theorem dX13_doOne_18 : decode cX13_doOne 18 = .ok (.aload_n 0, 1) := by decide +kernel
theorem dX13_doOne_19 : decode cX13_doOne 19 = .ok (.getfield 50, 3) := by decide +kernel
theorem dX13_doOne_22 : decode cX13_doOne 22 = .ok (.iload_n 1, 1) := by decide +kernel
theorem dX13_doOne_23 : decode cX13_doOne 23 = .ok (.iload_n 3, 1) := by decide +kernel
theorem dX13_doOne_24 : decode cX13_doOne 24 = .ok (.iastore, 1) := by decide +kernel
theorem dX13_doOne_25 : decode cX13_doOne 25 = .ok (.aload_n 0, 1) := by decide +kernel
theorem dX13_doOne_26 : decode cX13_doOne 26 = .ok (.getfield 53, 3) := by decide +kernel
theorem dX13_doOne_29 : decode cX13_doOne 29 = .ok (.iload_n 1, 1) := by decide +kernel
theorem dX13_doOne_30 : decode cX13_doOne 30 = .ok (.iconst (-1), 1) := by decide +kernel
theorem dX13_doOne_31 : decode cX13_doOne 31 = .ok (.iastore, 1) := by decide +kernel
theorem dX13_doOne_32 : decode cX13_doOne 32 = .ok (.iload_n 2, 1) := by decide +kernel
theorem dX13_doOne_33 : decode cX13_doOne 33 = .ok (.invokestatic 395, 3) := by decide +kernel
theorem dX13_doOne_36 : decode cX13_doOne 36 = .ok (.ifCond .lt 41, 3) := by decide +kernel
theorem dX13_doOne_39 : decode cX13_doOne 39 = .ok (.aload_n 0, 1) := by decide +kernel
theorem dX13_doOne_40 : decode cX13_doOne 40 = .ok (.iload_n 1, 1) := by decide +kernel
theorem dX13_doOne_41 : decode cX13_doOne 41 = .ok (.iload_n 3, 1) := by decide +kernel
theorem dX13_doOne_42 : decode cX13_doOne 42 = .ok (.invokevirtual 506, 3) := by decide +kernel
theorem dX13_doOne_45 : decode cX13_doOne 45 = .ok (.istore 4, 2) := by decide +kernel
theorem dX13_doOne_47 : decode cX13_doOne 47 = .ok (.aload_n 0, 1) := by decide +kernel
theorem dX13_doOne_48 : decode cX13_doOne 48 = .ok (.getfield 53, 3) := by decide +kernel
theorem dX13_doOne_51 : decode cX13_doOne 51 = .ok (.iload_n 1, 1) := by decide +kernel
theorem dX13_doOne_52 : decode cX13_doOne 52 = .ok (.iload 4, 2) := by decide +kernel
theorem dX13_doOne_54 : decode cX13_doOne 54 = .ok (.iastore, 1) := by decide +kernel
theorem dX13_doOne_55 : decode cX13_doOne 55 = .ok (.iload 4, 2) := by decide +kernel
theorem dX13_doOne_57 : decode cX13_doOne 57 = .ok (.ifCond .lt 17, 3) := by decide +kernel
theorem dX13_doOne_60 : decode cX13_doOne 60 = .ok (.aload_n 0, 1) := by decide +kernel
theorem dX13_doOne_61 : decode cX13_doOne 61 = .ok (.getfield 369, 3) := by decide +kernel
theorem dX13_doOne_64 : decode cX13_doOne 64 = .ok (.ifCond .ne 10, 3) := by decide +kernel
theorem dX13_doOne_67 : decode cX13_doOne 67 = .ok (.aload_n 0, 1) := by decide +kernel
theorem dX13_doOne_68 : decode cX13_doOne 68 = .ok (.iload_n 1, 1) := by decide +kernel
theorem dX13_doOne_69 : decode cX13_doOne 69 = .ok (.iload 4, 2) := by decide +kernel
theorem dX13_doOne_71 : decode cX13_doOne 71 = .ok (.invokevirtual 509, 3) := by decide +kernel
theorem dX13_doOne_74 : decode cX13_doOne 74 = .ok (.goto 78, 3) := by decide +kernel
theorem dX13_doOne_77 : decode cX13_doOne 77 = .ok (.iload_n 2, 1) := by decide +kernel
theorem dX13_doOne_78 : decode cX13_doOne 78 = .ok (.invokestatic 357, 3) := by decide +kernel
theorem dX13_doOne_81 : decode cX13_doOne 81 = .ok (.ifCond .eq 12, 3) := by decide +kernel
theorem dX13_doOne_84 : decode cX13_doOne 84 = .ok (.aload_n 0, 1) := by decide +kernel
theorem dX13_doOne_85 : decode cX13_doOne 85 = .ok (.iload_n 1, 1) := by decide +kernel
theorem dX13_doOne_86 : decode cX13_doOne 86 = .ok (.iload_n 3, 1) := by decide +kernel
theorem dX13_doOne_87 : decode cX13_doOne 87 = .ok (.invokevirtual 512, 3) := by decide +kernel
theorem dX13_doOne_90 : decode cX13_doOne 90 = .ok (.goto 62, 3) := by decide +kernel
theorem dX13_doOne_93 : decode cX13_doOne 93 = .ok (.iload_n 2, 1) := by decide +kernel
theorem dX13_doOne_94 : decode cX13_doOne 94 = .ok (.bipush 22, 2) := by decide +kernel
theorem dX13_doOne_96 : decode cX13_doOne 96 = .ok (.if_icmp .ne 12, 3) := by decide +kernel
theorem dX13_doOne_99 : decode cX13_doOne 99 = .ok (.aload_n 0, 1) := by decide +kernel
theorem dX13_doOne_100 : decode cX13_doOne 100 = .ok (.iload_n 1, 1) := by decide +kernel
theorem dX13_doOne_101 : decode cX13_doOne 101 = .ok (.iload_n 3, 1) := by decide +kernel
theorem dX13_doOne_102 : decode cX13_doOne 102 = .ok (.invokevirtual 515, 3) := by decide +kernel
theorem dX13_doOne_105 : decode cX13_doOne 105 = .ok (.goto 47, 3) := by decide +kernel
theorem dX13_doOne_108 : decode cX13_doOne 108 = .ok (.iload_n 2, 1) := by decide +kernel
theorem dX13_doOne_109 : decode cX13_doOne 109 = .ok (.bipush 20, 2) := by decide +kernel
theorem dX13_doOne_111 : decode cX13_doOne 111 = .ok (.if_icmp .ne 11, 3) := by decide +kernel
theorem dX13_doOne_114 : decode cX13_doOne 114 = .ok (.aload_n 0, 1) := by decide +kernel
theorem dX13_doOne_115 : decode cX13_doOne 115 = .ok (.iload_n 3, 1) := by decide +kernel
theorem dX13_doOne_116 : decode cX13_doOne 116 = .ok (.invokevirtual 518, 3) := by decide +kernel
theorem dX13_doOne_119 : decode cX13_doOne 119 = .ok (.goto 33, 3) := by decide +kernel
theorem dX13_doOne_122 : decode cX13_doOne 122 = .ok (.iload_n 2, 1) := by decide +kernel
theorem dX13_doOne_123 : decode cX13_doOne 123 = .ok (.ifCond .ne 18, 3) := by decide +kernel
theorem dX13_doOne_126 : decode cX13_doOne 126 = .ok (.aload_n 0, 1) := by decide +kernel
theorem dX13_doOne_127 : decode cX13_doOne 127 = .ok (.getfield 31, 3) := by decide +kernel
theorem dX13_doOne_130 : decode cX13_doOne 130 = .ok (.iconst 0, 1) := by decide +kernel
theorem dX13_doOne_131 : decode cX13_doOne 131 = .ok (.aload_n 0, 1) := by decide +kernel
theorem dX13_doOne_132 : decode cX13_doOne 132 = .ok (.iload_n 1, 1) := by decide +kernel
theorem dX13_doOne_133 : decode cX13_doOne 133 = .ok (.iconst 4, 1) := by decide +kernel
theorem dX13_doOne_134 : decode cX13_doOne 134 = .ok (.invokevirtual 381, 3) := by decide +kernel
theorem dX13_doOne_137 : decode cX13_doOne 137 = .ok (.iastore, 1) := by decide +kernel
theorem dX13_doOne_138 : decode cX13_doOne 138 = .ok (.goto 14, 3) := by decide +kernel
theorem dX13_doOne_141 : decode cX13_doOne 141 = .ok (.iload_n 2, 1) := by decide +kernel
theorem dX13_doOne_142 : decode cX13_doOne 142 = .ok (.bipush 26, 2) := by decide +kernel
theorem dX13_doOne_144 : decode cX13_doOne 144 = .ok (.if_icmp .ne 8, 3) := by decide +kernel
theorem dX13_doOne_147 : decode cX13_doOne 147 = .ok (.aload_n 0, 1) := by decide +kernel
theorem dX13_doOne_148 : decode cX13_doOne 148 = .ok (.iconst 1, 1) := by decide +kernel
theorem dX13_doOne_149 : decode cX13_doOne 149 = .ok (.putfield 378, 3) := by decide +kernel
theorem dX13_doOne_152 : decode cX13_doOne 152 = .ok (.aload_n 0, 1) := by decide +kernel
theorem dX13_doOne_153 : decode cX13_doOne 153 = .ok (.getfield 369, 3) := by decide +kernel
theorem dX13_doOne_156 : decode cX13_doOne 156 = .ok (.ifCond .ne 13, 3) := by decide +kernel
theorem dX13_doOne_159 : decode cX13_doOne 159 = .ok (.aload_n 0, 1) := by decide +kernel
theorem dX13_doOne_160 : decode cX13_doOne 160 = .ok (.dup, 1) := by decide +kernel
theorem dX13_doOne_161 : decode cX13_doOne 161 = .ok (.getfield 521, 3) := by decide +kernel
theorem dX13_doOne_164 : decode cX13_doOne 164 = .ok (.iconst 1, 1) := by decide +kernel
theorem dX13_doOne_165 : decode cX13_doOne 165 = .ok (.iadd, 1) := by decide +kernel
theorem dX13_doOne_166 : decode cX13_doOne 166 = .ok (.putfield 521, 3) := by decide +kernel
theorem dX13_doOne_169 : decode cX13_doOne 169 = .ok (.iload_n 2, 1) := by decide +kernel
theorem dX13_doOne_170 : decode cX13_doOne 170 = .ok (.bipush 25, 2) := by decide +kernel
theorem dX13_doOne_172 : decode cX13_doOne 172 = .ok (.if_icmp .ne 8, 3) := by decide +kernel
theorem dX13_doOne_175 : decode cX13_doOne 175 = .ok (.aload_n 0, 1) := by decide +kernel
theorem dX13_doOne_176 : decode cX13_doOne 176 = .ok (.iload_n 1, 1) := by decide +kernel
theorem dX13_doOne_177 : decode cX13_doOne 177 = .ok (.invokevirtual 524, 3) := by decide +kernel
theorem dX13_doOne_180 : decode cX13_doOne 180 = .ok (.return_, 1) := by decide +kernel
def pX13_doOne_b169 (g : MT) (fO : CT → Nat → Int32 → Int32 → Option CT) (this : Nat) (p1 : Int32) (l2 : Int32) (h : CT) : Option CT := if l2 = 25 then bd (pX13_strips g fO h this p1) fun h2 => (some h2) else some h
set_option maxRecDepth 10000 in
set_option maxHeartbeats 4000000 in
theorem pX13_doOne_b169_ok {X : Cx} {G : Gx} {dk : Nat} {g : MT} {h0 : CT} {this : Nat} {p1 : Int32} (Z : Zx X G cX13_doOne RX13 5 dk none none g h0) (hK : 5 ≤ dk) {fO : CT → Nat → Int32 → Int32 → Option CT} {KO : Nat} (hO : ∀ (d : Nat), KO ≤ d → ∀ (h : CT) (this : Nat) (p1 : Int32) (p2 : Int32) (h1 : CT), fO h this p1 p2 = some h1 → Ctr G d yX13_doAll cX13_doAll 4 none [va_rf (some this), .int p1, .int p2] g h none g h1) (hKO : KO + 2 ≤ dk) (t0 : gT g this = 12) (l2 : Int32) (h : CT) (hf : pX13_doOne_b169 g fO this p1 l2 h = some h0) : J X g h 169 [(0, va_rf (some this)), (1, .int p1), (2, .int l2)] [] := by
  unfold pX13_doOne_b169 at hf
  refine J_iload_n Z.1 2 dX13_doOne_169 rfl rfl ?_
  refine J_bipush Z.1 (v := 25) (by decide) dX13_doOne_170 ?_
  refine J_icmp_ne Z.1 180 dX13_doOne_172 (by decide) (fun c1 => ?_) (fun c1 => ?_)
  · rw [if_neg c1] at hf
    cases hf
    exact J_vret Z.1 Z.2.2.2.2.2 dX13_doOne_180
  · rw [if_pos c1] at hf
    refine J_aload_n Z.1 0 dX13_doOne_175 rfl rfl ?_
    refine J_iload_n Z.1 1 dX13_doOne_176 rfl rfl ?_
    replace hf := bd_i hf
    obtain ⟨h2, q3, hf⟩ := hf
    refine J_callV (ci := 11) (as := [.int p1]) (rest := []) (sy := []) Z.1 dX13_doOne_177 cw_X13_524 (pX13_strips_ok G (dk - 1) (by omega) hO (by omega) q3) rfl rfl t0 (zG Z) rfl (by decide) (zF Z (by omega)) (zO Z (by omega) (by decide)) (zM _) Z.2.1 Z.2.1 rfl rfl ?_
    cases hf
    exact J_vret Z.1 Z.2.2.2.2.2 dX13_doOne_180
def pX13_doOne_b152 (g : MT) (fO : CT → Nat → Int32 → Int32 → Option CT) (this : Nat) (p1 : Int32) (l2 : Int32) (h : CT) : Option CT := if (hI h this 37) = 0 then lt (sI h this 36 ((hI h this 36) + 1)) fun h2 => (pX13_doOne_b169 g fO this p1  l2 h2) else pX13_doOne_b169 g fO this p1  l2 h
set_option maxRecDepth 10000 in
set_option maxHeartbeats 4000000 in
theorem pX13_doOne_b152_ok {X : Cx} {G : Gx} {dk : Nat} {g : MT} {h0 : CT} {this : Nat} {p1 : Int32} (Z : Zx X G cX13_doOne RX13 5 dk none none g h0) (hK : 5 ≤ dk) {fO : CT → Nat → Int32 → Int32 → Option CT} {KO : Nat} (hO : ∀ (d : Nat), KO ≤ d → ∀ (h : CT) (this : Nat) (p1 : Int32) (p2 : Int32) (h1 : CT), fO h this p1 p2 = some h1 → Ctr G d yX13_doAll cX13_doAll 4 none [va_rf (some this), .int p1, .int p2] g h none g h1) (hKO : KO + 2 ≤ dk) (t0 : gT g this = 12) (l2 : Int32) (h : CT) (hf : pX13_doOne_b152 g fO this p1 l2 h = some h0) : J X g h 152 [(0, va_rf (some this)), (1, .int p1), (2, .int l2)] [] := by
  unfold pX13_doOne_b152 at hf
  refine J_aload_n Z.1 0 dX13_doOne_152 rfl rfl ?_
  refine J_get (v := .int (hI h this 37)) Z.1 dX13_doOne_153 fl_X13_369 t0 rfl ?_
  refine J_if_ne Z.1 169 dX13_doOne_156 (by decide) (fun c1 => ?_) (fun c1 => ?_)
  · rw [if_neg c1] at hf
    exact pX13_doOne_b169_ok Z hK hO hKO t0  _ _ hf
  · rw [if_pos c1] at hf
    refine J_aload_n Z.1 0 dX13_doOne_159 rfl rfl ?_
    refine J_dup Z.1 dX13_doOne_160 rfl ?_
    refine J_get (v := .int (hI h this 36)) Z.1 dX13_doOne_161 fl_X13_521 t0 rfl ?_
    refine J_iconst Z.1 (v := 1) (by decide) dX13_doOne_164 ?_
    refine J_iadd Z.1 dX13_doOne_165 ?_
    refine J_putI Z.1 dX13_doOne_166 fl_X13_521 (fun q => by cases q) t0 rfl rfl (congrArg Value.int (hI_s _ _ _ _)) ?_
    refine J_th (fun h2 eh2 => ?_)
    replace hf := lt_i hf h2 eh2
    exact pX13_doOne_b169_ok Z hK hO hKO t0  _ _ hf
def pX13_doOne_b74 (g : MT) (fO : CT → Nat → Int32 → Int32 → Option CT) (this : Nat) (p1 : Int32) (l2 : Int32) (h : CT) : Option CT := pX13_doOne_b152 g fO this p1  l2 h
set_option maxRecDepth 10000 in
set_option maxHeartbeats 4000000 in
theorem pX13_doOne_b74_ok {X : Cx} {G : Gx} {dk : Nat} {g : MT} {h0 : CT} {this : Nat} {p1 : Int32} (Z : Zx X G cX13_doOne RX13 5 dk none none g h0) (hK : 5 ≤ dk) {fO : CT → Nat → Int32 → Int32 → Option CT} {KO : Nat} (hO : ∀ (d : Nat), KO ≤ d → ∀ (h : CT) (this : Nat) (p1 : Int32) (p2 : Int32) (h1 : CT), fO h this p1 p2 = some h1 → Ctr G d yX13_doAll cX13_doAll 4 none [va_rf (some this), .int p1, .int p2] g h none g h1) (hKO : KO + 2 ≤ dk) (t0 : gT g this = 12) (l2 : Int32) (h : CT) (hf : pX13_doOne_b74 g fO this p1 l2 h = some h0) : J X g h 74 [(0, va_rf (some this)), (1, .int p1), (2, .int l2)] [] := by
  unfold pX13_doOne_b74 at hf
  refine J_goto Z.1 152 dX13_doOne_74 (by decide) ?_
  exact pX13_doOne_b152_ok Z hK hO hKO t0  _ _ hf
def pX13_doOne (g : MT) (fO : CT → Nat → Int32 → Int32 → Option CT) (h : CT) (this : Nat) (p1 : Int32) : Option CT := tg g this 12 (bd (pX13_at g h this p1 0) fun x1 => (bd (pX13_beginning g h this p1) fun x3 => (bd (pX13_begins g h this x3) fun h5 => (lt (hR h5 this 27) fun r7 => (nn r7 fun a7 => (tg g a7 20 (ix (gL g a7) p1 (lt (sI h5 a7 (Int32.toNatClampNeg p1) x3) fun h10 => (lt (hR h10 this 28) fun r11 => (nn r11 fun a11 => (tg g a11 20 (ix (gL g a11) p1 (lt (sI h10 a11 (Int32.toNatClampNeg p1) (-1)) fun h14 => (if (pX13_unitOf x1) < 0 then if (pX13_isFolded x1) = 0 then if x1 = 22 then bd (pX13_counts g h14 this p1 x3) fun h30 => (pX13_doOne_b152 g fO this p1  x1 h30) else if x1 = 20 then bd (pX13_flips g h14 this x3) fun h28 => (pX13_doOne_b152 g fO this p1  x1 h28) else if x1 = 0 then lt (hR h14 this 19) fun r22 => (bd (pX13_at g h14 this p1 4) fun x23 => (nn r22 fun a22 => (tg g a22 20 (ix (gL g a22) 0 (lt (sI h14 a22 (Int32.toNatClampNeg 0) x23) fun h27 => (pX13_doOne_b152 g fO this p1  x1 h27)))))) else if x1 = 26 then lt (sI h14 this 40 1) fun h21 => (pX13_doOne_b152 g fO this p1  x1 h21) else pX13_doOne_b152 g fO this p1  x1 h14 else bd (pX13_folds g h14 this p1 x3) fun h32 => (pX13_doOne_b152 g fO this p1  x1 h32) else bd2 (pX13_elements g h14 this p1 x3) fun x36 h34 => (lt (hR h34 this 28) fun r37 => (nn r37 fun a37 => (tg g a37 20 (ix (gL g a37) p1 (lt (sI h34 a37 (Int32.toNatClampNeg p1) x36) fun h40 => (if x36 < 0 then pX13_doOne_b74 g fO this p1  x1 h40 else if (hI h40 this 37) = 0 then bd (pX13_settles g h40 this p1 x36) fun h43 => (pX13_doOne_b74 g fO this p1  x1 h43) else pX13_doOne_b74 g fO this p1  x1 h40))))))))))))))))))))
set_option maxRecDepth 10000 in
set_option maxHeartbeats 4000000 in
theorem pX13_doOne_ok (G : Gx) (dk : Nat) (hK : 5 ≤ dk) {g : MT} {fO : CT → Nat → Int32 → Int32 → Option CT} {KO : Nat} (hO : ∀ (d : Nat), KO ≤ d → ∀ (h : CT) (this : Nat) (p1 : Int32) (p2 : Int32) (h1 : CT), fO h this p1 p2 = some h1 → Ctr G d yX13_doAll cX13_doAll 4 none [va_rf (some this), .int p1, .int p2] g h none g h1) (hKO : KO + 2 ≤ dk) {h h0 : CT} {this : Nat} {p1 : Int32} (hf : pX13_doOne g fO h this p1 = some h0) : Ctr G dk yX13_doOne cX13_doOne 5 none [va_rf (some this), .int p1] g h none g h0 := by
  refine Ctr.ofZ (lv := [(0, va_rf (some this)), (1, .int p1)]) (by decide +kernel) (by simp [cat_i, cat_l, cat_d, cat_rf]) rfl fun X Z => ?_
  unfold pX13_doOne at hf
  replace hf := tg_i hf
  obtain ⟨t0, hf⟩ := hf
  refine J_aload_n Z.1 0 dX13_doOne_0 rfl rfl ?_
  refine J_iload_n Z.1 1 dX13_doOne_1 rfl rfl ?_
  refine J_iconst Z.1 (v := 0) (by decide) dX13_doOne_2 ?_
  replace hf := bd_i hf
  obtain ⟨x1, q2, hf⟩ := hf
  refine J_callV (ci := 11) (as := [.int p1, .int 0]) (rest := []) (sy := [.int x1]) Z.1 dX13_doOne_3 cw_X13_381 (pX13_at_ok G (dk - 1) (by omega) q2) rfl rfl t0 (zG Z) rfl (by decide) (zF Z (by omega)) (zO Z (by omega) (by decide)) (zM _) Z.2.1 Z.2.1 rfl rfl ?_
  refine J_istore_n Z.1 (lv2 := [(2, .int x1), (0, va_rf (some this)), (1, .int p1)]) dX13_doOne_6 rfl (zL Z (by decide)) rfl ?_
  refine J_aload_n Z.1 1 dX13_doOne_7 rfl rfl ?_
  refine J_iload_n Z.1 2 dX13_doOne_8 rfl rfl ?_
  replace hf := bd_i hf
  obtain ⟨x3, q4, hf⟩ := hf
  refine J_callV (ci := 11) (as := [.int p1]) (rest := []) (sy := [.int x3]) Z.1 dX13_doOne_9 cw_X13_500 (pX13_beginning_ok G (dk - 1) (by omega) q4) rfl rfl t0 (zG Z) rfl (by decide) (zF Z (by omega)) (zO Z (by omega) (by decide)) (zM _) Z.2.1 Z.2.1 rfl rfl ?_
  refine J_istore_n Z.1 (lv2 := [(3, .int x3), (2, .int x1), (0, va_rf (some this)), (1, .int p1)]) dX13_doOne_12 rfl (zL Z (by decide)) rfl ?_
  refine J_aload_n Z.1 2 dX13_doOne_13 rfl rfl ?_
  refine J_iload_n Z.1 0 dX13_doOne_14 rfl rfl ?_
  replace hf := bd_i hf
  obtain ⟨h5, q6, hf⟩ := hf
  refine J_callV (ci := 11) (as := [.int x3]) (rest := []) (sy := []) Z.1 dX13_doOne_15 cw_X13_503 (pX13_begins_ok G (dk - 1) (by omega) q6) rfl rfl t0 (zG Z) rfl (by decide) (zF Z (by omega)) (zO Z (by omega) (by decide)) (zM _) Z.2.1 Z.2.1 rfl rfl ?_
  refine J_aload_n Z.1 2 dX13_doOne_18 rfl rfl ?_
  refine J_get (v := va_rf (hR h5 this 27)) Z.1 dX13_doOne_19 fl_X13_50 t0 rfl ?_
  refine J_tr (fun r7 er7 => ?_)
  replace hf := lt_i hf r7 er7
  refine J_iload_n Z.1 3 dX13_doOne_22 rfl rfl ?_
  refine J_iload_n Z.1 0 dX13_doOne_23 rfl rfl ?_
  replace hf := nn_i hf
  obtain ⟨a7, rfl, hf⟩ := hf
  replace hf := tg_i hf
  obtain ⟨t8, hf⟩ := hf
  replace hf := ix_i hf
  obtain ⟨i9, hf⟩ := hf
  refine J_iastore Z.1 dX13_doOne_24 t8 i9 ?_
  refine J_th (fun h10 eh10 => ?_)
  replace hf := lt_i hf h10 eh10
  refine J_aload_n Z.1 2 dX13_doOne_25 rfl rfl ?_
  refine J_get (v := va_rf (hR h10 this 28)) Z.1 dX13_doOne_26 fl_X13_53 t0 rfl ?_
  refine J_tr (fun r11 er11 => ?_)
  replace hf := lt_i hf r11 er11
  refine J_iload_n Z.1 3 dX13_doOne_29 rfl rfl ?_
  refine J_iconst Z.1 (v := (-1)) (by decide) dX13_doOne_30 ?_
  replace hf := nn_i hf
  obtain ⟨a11, rfl, hf⟩ := hf
  replace hf := tg_i hf
  obtain ⟨t12, hf⟩ := hf
  replace hf := ix_i hf
  obtain ⟨i13, hf⟩ := hf
  refine J_iastore Z.1 dX13_doOne_31 t12 i13 ?_
  refine J_th (fun h14 eh14 => ?_)
  replace hf := lt_i hf h14 eh14
  refine J_iload_n Z.1 1 dX13_doOne_32 rfl rfl ?_
  refine J_callS (as := [.int x1]) (rest := []) (sy := [.int (pX13_unitOf x1)]) Z.1 dX13_doOne_33 cw_X13_395 (pX13_unitOf_ok G (dk - 1) (by omega) g h14 x1) (zG Z) rfl (by decide) (zF Z (by omega)) (zO Z (by omega) (by decide)) (zM _) Z.2.1 Z.2.1 rfl rfl ?_
  refine J_if_lt Z.1 77 dX13_doOne_36 (by decide) (fun c15 => ?_) (fun c15 => ?_)
  · rw [if_pos c15] at hf
    refine J_iload_n Z.1 1 dX13_doOne_77 rfl rfl ?_
    refine J_callS (as := [.int x1]) (rest := []) (sy := [.int (pX13_isFolded x1)]) Z.1 dX13_doOne_78 cw_X13_357 (pX13_isFolded_ok G (dk - 1) (by omega) g h14 x1) (zG Z) rfl (by decide) (zF Z (by omega)) (zO Z (by omega) (by decide)) (zM _) Z.2.1 Z.2.1 rfl rfl ?_
    refine J_if_eq Z.1 93 dX13_doOne_81 (by decide) (fun c16 => ?_) (fun c16 => ?_)
    · rw [if_pos c16] at hf
      refine J_iload_n Z.1 1 dX13_doOne_93 rfl rfl ?_
      refine J_bipush Z.1 (v := 22) (by decide) dX13_doOne_94 ?_
      refine J_icmp_ne Z.1 108 dX13_doOne_96 (by decide) (fun c17 => ?_) (fun c17 => ?_)
      · rw [if_neg c17] at hf
        refine J_iload_n Z.1 1 dX13_doOne_108 rfl rfl ?_
        refine J_bipush Z.1 (v := 20) (by decide) dX13_doOne_109 ?_
        refine J_icmp_ne Z.1 122 dX13_doOne_111 (by decide) (fun c18 => ?_) (fun c18 => ?_)
        · rw [if_neg c18] at hf
          refine J_iload_n Z.1 1 dX13_doOne_122 rfl rfl ?_
          refine J_if_ne Z.1 141 dX13_doOne_123 (by decide) (fun c19 => ?_) (fun c19 => ?_)
          · rw [if_neg c19] at hf
            refine J_iload_n Z.1 1 dX13_doOne_141 rfl rfl ?_
            refine J_bipush Z.1 (v := 26) (by decide) dX13_doOne_142 ?_
            refine J_icmp_ne Z.1 152 dX13_doOne_144 (by decide) (fun c20 => ?_) (fun c20 => ?_)
            · rw [if_neg c20] at hf
              refine J_lv [2, 3, 1] rfl ?_
              exact pX13_doOne_b152_ok Z hK hO hKO t0  _ _ hf
            · rw [if_pos c20] at hf
              refine J_aload_n Z.1 2 dX13_doOne_147 rfl rfl ?_
              refine J_iconst Z.1 (v := 1) (by decide) dX13_doOne_148 ?_
              refine J_putI Z.1 dX13_doOne_149 fl_X13_378 (fun q => by cases q) t0 (z_n (Or.inr rfl)) (z_f (Or.inr rfl)) (congrArg Value.int (hI_s _ _ _ _)) ?_
              refine J_th (fun h21 eh21 => ?_)
              replace hf := lt_i hf h21 eh21
              refine J_lv [2, 3, 1] rfl ?_
              exact pX13_doOne_b152_ok Z hK hO hKO t0  _ _ hf
          · rw [if_pos c19] at hf
            refine J_aload_n Z.1 2 dX13_doOne_126 rfl rfl ?_
            refine J_get (v := va_rf (hR h14 this 19)) Z.1 dX13_doOne_127 fl_X13_31 t0 rfl ?_
            refine J_tr (fun r22 er22 => ?_)
            replace hf := lt_i hf r22 er22
            refine J_iconst Z.1 (v := 0) (by decide) dX13_doOne_130 ?_
            refine J_aload_n Z.1 2 dX13_doOne_131 rfl rfl ?_
            refine J_iload_n Z.1 3 dX13_doOne_132 rfl rfl ?_
            refine J_iconst Z.1 (v := 4) (by decide) dX13_doOne_133 ?_
            replace hf := bd_i hf
            obtain ⟨x23, q24, hf⟩ := hf
            refine J_callV (ci := 11) (as := [.int p1, .int 4]) (rest := [.int 0, va_rf r22]) (sy := [.int x23, .int 0, va_rf r22]) Z.1 dX13_doOne_134 cw_X13_381 (pX13_at_ok G (dk - 1) (by omega) q24) rfl rfl t0 (zG Z) rfl (by simp [cat_i, cat_l, cat_d, cat_rf]) (zF Z (by omega)) (zO Z (by omega) (by decide)) (zM _) Z.2.1 Z.2.1 rfl rfl ?_
            replace hf := nn_i hf
            obtain ⟨a22, rfl, hf⟩ := hf
            replace hf := tg_i hf
            obtain ⟨t25, hf⟩ := hf
            replace hf := ix_i hf
            obtain ⟨i26, hf⟩ := hf
            refine J_iastore Z.1 dX13_doOne_137 t25 i26 ?_
            refine J_th (fun h27 eh27 => ?_)
            replace hf := lt_i hf h27 eh27
            refine J_goto Z.1 152 dX13_doOne_138 (by decide) ?_
            refine J_lv [2, 3, 1] rfl ?_
            exact pX13_doOne_b152_ok Z hK hO hKO t0  _ _ hf
        · rw [if_pos c18] at hf
          refine J_aload_n Z.1 2 dX13_doOne_114 rfl rfl ?_
          refine J_iload_n Z.1 0 dX13_doOne_115 rfl rfl ?_
          replace hf := bd_i hf
          obtain ⟨h28, q29, hf⟩ := hf
          refine J_callV (ci := 11) (as := [.int x3]) (rest := []) (sy := []) Z.1 dX13_doOne_116 cw_X13_518 (pX13_flips_ok G (dk - 1) (by omega) q29) rfl rfl t0 (zG Z) rfl (by decide) (zF Z (by omega)) (zO Z (by omega) (by decide)) (zM _) Z.2.1 Z.2.1 rfl rfl ?_
          refine J_goto Z.1 152 dX13_doOne_119 (by decide) ?_
          refine J_lv [2, 3, 1] rfl ?_
          exact pX13_doOne_b152_ok Z hK hO hKO t0  _ _ hf
      · rw [if_pos c17] at hf
        refine J_aload_n Z.1 2 dX13_doOne_99 rfl rfl ?_
        refine J_iload_n Z.1 3 dX13_doOne_100 rfl rfl ?_
        refine J_iload_n Z.1 0 dX13_doOne_101 rfl rfl ?_
        replace hf := bd_i hf
        obtain ⟨h30, q31, hf⟩ := hf
        refine J_callV (ci := 11) (as := [.int p1, .int x3]) (rest := []) (sy := []) Z.1 dX13_doOne_102 cw_X13_515 (pX13_counts_ok G (dk - 1) (by omega) q31) rfl rfl t0 (zG Z) rfl (by decide) (zF Z (by omega)) (zO Z (by omega) (by decide)) (zM _) Z.2.1 Z.2.1 rfl rfl ?_
        refine J_goto Z.1 152 dX13_doOne_105 (by decide) ?_
        refine J_lv [2, 3, 1] rfl ?_
        exact pX13_doOne_b152_ok Z hK hO hKO t0  _ _ hf
    · rw [if_neg c16] at hf
      refine J_aload_n Z.1 2 dX13_doOne_84 rfl rfl ?_
      refine J_iload_n Z.1 3 dX13_doOne_85 rfl rfl ?_
      refine J_iload_n Z.1 0 dX13_doOne_86 rfl rfl ?_
      replace hf := bd_i hf
      obtain ⟨h32, q33, hf⟩ := hf
      refine J_callV (ci := 11) (as := [.int p1, .int x3]) (rest := []) (sy := []) Z.1 dX13_doOne_87 cw_X13_512 (pX13_folds_ok G (dk - 1) (by omega) q33) rfl rfl t0 (zG Z) rfl (by decide) (zF Z (by omega)) (zO Z (by omega) (by decide)) (zM _) Z.2.1 Z.2.1 rfl rfl ?_
      refine J_goto Z.1 152 dX13_doOne_90 (by decide) ?_
      refine J_lv [2, 3, 1] rfl ?_
      exact pX13_doOne_b152_ok Z hK hO hKO t0  _ _ hf
  · rw [if_neg c15] at hf
    refine J_aload_n Z.1 2 dX13_doOne_39 rfl rfl ?_
    refine J_iload_n Z.1 3 dX13_doOne_40 rfl rfl ?_
    refine J_iload_n Z.1 0 dX13_doOne_41 rfl rfl ?_
    replace hf := bd2_i hf
    obtain ⟨x36, h34, q35, hf⟩ := hf
    refine J_callV (ci := 11) (as := [.int p1, .int x3]) (rest := []) (sy := [.int x36]) Z.1 dX13_doOne_42 cw_X13_506 (pX13_elements_ok G (dk - 1) (by omega) q35) rfl rfl t0 (zG Z) rfl (by decide) (zF Z (by omega)) (zO Z (by omega) (by decide)) (zM _) Z.2.1 Z.2.1 rfl rfl ?_
    refine J_istore Z.1 (lv2 := [(4, .int x36), (3, .int x3), (2, .int x1), (0, va_rf (some this)), (1, .int p1)]) dX13_doOne_45 (zL Z (by decide)) rfl ?_
    refine J_aload_n Z.1 3 dX13_doOne_47 rfl rfl ?_
    refine J_get (v := va_rf (hR h34 this 28)) Z.1 dX13_doOne_48 fl_X13_53 t0 rfl ?_
    refine J_tr (fun r37 er37 => ?_)
    replace hf := lt_i hf r37 er37
    refine J_iload_n Z.1 4 dX13_doOne_51 rfl rfl ?_
    refine J_iload Z.1 0 dX13_doOne_52 rfl ?_
    replace hf := nn_i hf
    obtain ⟨a37, rfl, hf⟩ := hf
    replace hf := tg_i hf
    obtain ⟨t38, hf⟩ := hf
    replace hf := ix_i hf
    obtain ⟨i39, hf⟩ := hf
    refine J_iastore Z.1 dX13_doOne_54 t38 i39 ?_
    refine J_th (fun h40 eh40 => ?_)
    replace hf := lt_i hf h40 eh40
    refine J_iload Z.1 0 dX13_doOne_55 rfl ?_
    refine J_if_lt Z.1 74 dX13_doOne_57 (by decide) (fun c41 => ?_) (fun c41 => ?_)
    · rw [if_pos c41] at hf
      refine J_lv [3, 4, 2] rfl ?_
      exact pX13_doOne_b74_ok Z hK hO hKO t0  _ _ hf
    · rw [if_neg c41] at hf
      refine J_aload_n Z.1 3 dX13_doOne_60 rfl rfl ?_
      refine J_get (v := .int (hI h40 this 37)) Z.1 dX13_doOne_61 fl_X13_369 t0 rfl ?_
      refine J_if_ne Z.1 74 dX13_doOne_64 (by decide) (fun c42 => ?_) (fun c42 => ?_)
      · rw [if_neg c42] at hf
        refine J_lv [3, 4, 2] rfl ?_
        exact pX13_doOne_b74_ok Z hK hO hKO t0  _ _ hf
      · rw [if_pos c42] at hf
        refine J_aload_n Z.1 3 dX13_doOne_67 rfl rfl ?_
        refine J_iload_n Z.1 4 dX13_doOne_68 rfl rfl ?_
        refine J_iload Z.1 0 dX13_doOne_69 rfl ?_
        replace hf := bd_i hf
        obtain ⟨h43, q44, hf⟩ := hf
        refine J_callV (ci := 11) (as := [.int p1, .int x36]) (rest := []) (sy := []) Z.1 dX13_doOne_71 cw_X13_509 (pX13_settles_ok G (dk - 1) (by omega) q44) rfl rfl t0 (zG Z) rfl (by decide) (zF Z (by omega)) (zO Z (by omega) (by decide)) (zM _) Z.2.1 Z.2.1 rfl rfl ?_
        refine J_lv [3, 4, 2] rfl ?_
        exact pX13_doOne_b74_ok Z hK hO hKO t0  _ _ hf
theorem dX13_doAll_0 : decode cX13_doAll 0 = .ok (.iload_n 1, 1) := by decide +kernel
theorem dX13_doAll_1 : decode cX13_doAll 1 = .ok (.istore_n 3, 1) := by decide +kernel
theorem dX13_doAll_2 : decode cX13_doAll 2 = .ok (.iload_n 3, 1) := by decide +kernel
theorem dX13_doAll_3 : decode cX13_doAll 3 = .ok (.iload_n 2, 1) := by decide +kernel
theorem dX13_doAll_4 : decode cX13_doAll 4 = .ok (.if_icmp .ge 43, 3) := by decide +kernel
theorem dX13_doAll_7 : decode cX13_doAll 7 = .ok (.aload_n 0, 1) := by decide +kernel
theorem dX13_doAll_8 : decode cX13_doAll 8 = .ok (.getfield 378, 3) := by decide +kernel
theorem dX13_doAll_11 : decode cX13_doAll 11 = .ok (.ifCond .ne 36, 3) := by decide +kernel
theorem dX13_doAll_14 : decode cX13_doAll 14 = .ok (.aload_n 0, 1) := by decide +kernel
theorem dX13_doAll_15 : decode cX13_doAll 15 = .ok (.iload_n 3, 1) := by decide +kernel
theorem dX13_doAll_16 : decode cX13_doAll 16 = .ok (.invokevirtual 532, 3) := by decide +kernel
theorem dX13_doAll_19 : decode cX13_doAll 19 = .ok (.aload_n 0, 1) := by decide +kernel
theorem dX13_doAll_20 : decode cX13_doAll 20 = .ok (.iload_n 3, 1) := by decide +kernel
theorem dX13_doAll_21 : decode cX13_doAll 21 = .ok (.iconst 0, 1) := by decide +kernel
theorem dX13_doAll_22 : decode cX13_doAll 22 = .ok (.invokevirtual 381, 3) := by decide +kernel
theorem dX13_doAll_25 : decode cX13_doAll 25 = .ok (.bipush 25, 2) := by decide +kernel
theorem dX13_doAll_27 : decode cX13_doAll 27 = .ok (.if_icmp .ne 13, 3) := by decide +kernel
theorem dX13_doAll_30 : decode cX13_doAll 30 = .ok (.aload_n 0, 1) := by decide +kernel
theorem dX13_doAll_31 : decode cX13_doAll 31 = .ok (.iload_n 3, 1) := by decide +kernel
theorem dX13_doAll_32 : decode cX13_doAll 32 = .ok (.bipush 7, 2) := by decide +kernel
theorem dX13_doAll_34 : decode cX13_doAll 34 = .ok (.invokevirtual 381, 3) := by decide +kernel
theorem dX13_doAll_37 : decode cX13_doAll 37 = .ok (.goto 6, 3) := by decide +kernel
theorem dX13_doAll_40 : decode cX13_doAll 40 = .ok (.iload_n 3, 1) := by decide +kernel
theorem dX13_doAll_41 : decode cX13_doAll 41 = .ok (.iconst 1, 1) := by decide +kernel
theorem dX13_doAll_42 : decode cX13_doAll 42 = .ok (.iadd, 1) := by decide +kernel
theorem dX13_doAll_43 : decode cX13_doAll 43 = .ok (.istore_n 3, 1) := by decide +kernel
theorem dX13_doAll_44 : decode cX13_doAll 44 = .ok (.goto (-42), 3) := by decide +kernel
theorem dX13_doAll_47 : decode cX13_doAll 47 = .ok (.return_, 1) := by decide +kernel
def pX13_doAll_o_b43 (g : MT) (fO : CT → Nat → Int32 → Int32 → Option CT) (this : Nat) (p1 : Int32) (p2 : Int32) (k2 : Int32 → CT → Option CT) (s0 : Int32) (h : CT) : Option CT := k2 s0 h
set_option maxRecDepth 10000 in
set_option maxHeartbeats 4000000 in
theorem pX13_doAll_o_b43_ok {X : Cx} {G : Gx} {dk : Nat} {g : MT} {h0 : CT} {this : Nat} {p1 : Int32} {p2 : Int32} {k2 : Int32 → CT → Option CT} (Z : Zx X G cX13_doAll RX13 4 dk none none g h0) (hK : 6 ≤ dk) {fO : CT → Nat → Int32 → Int32 → Option CT} {KO : Nat} (hO : ∀ (d : Nat), KO ≤ d → ∀ (h : CT) (this : Nat) (p1 : Int32) (p2 : Int32) (h1 : CT), fO h this p1 p2 = some h1 → Ctr G d yX13_doAll cX13_doAll 4 none [va_rf (some this), .int p1, .int p2] g h none g h1) (hKO : KO + 3 ≤ dk) (t0 : gT g this = 12) (hk2 : ∀ (l3 : Int32) (h : CT), k2 l3 h = some h0 → J X g h 2 [(0, va_rf (some this)), (2, .int p2), (3, .int l3)] []) (s0 : Int32) (h : CT) (hf : pX13_doAll_o_b43 g fO this p1 p2 k2 s0 h = some h0) : J X g h 43 [(0, va_rf (some this)), (2, .int p2)] [.int s0] := by
  unfold pX13_doAll_o_b43 at hf
  refine J_istore_n Z.1 (lv2 := [(3, .int s0), (0, va_rf (some this)), (2, .int p2)]) dX13_doAll_43 rfl (zL Z (by decide)) rfl ?_
  refine J_goto Z.1 2 dX13_doAll_44 (by decide) ?_
  refine J_lv [1, 2, 0] rfl ?_
  exact hk2 _ _ hf
def pX13_doAll_o_b2 (g : MT) (fO : CT → Nat → Int32 → Int32 → Option CT) (this : Nat) (p1 : Int32) (p2 : Int32) (k2 : Int32 → CT → Option CT) (l3 : Int32) (h : CT) : Option CT := if p2 ≤ l3 then some h else if (hI h this 40) = 0 then bd (pX13_doOne g fO h this l3) fun h3 => (bd (pX13_at g h3 this l3 0) fun x5 => (if x5 = 25 then bd (pX13_at g h3 this l3 7) fun x8 => (pX13_doAll_o_b43 g fO this p1 p2 k2 x8 h3) else pX13_doAll_o_b43 g fO this p1 p2 k2 (l3 + 1) h3)) else some h
set_option maxRecDepth 10000 in
set_option maxHeartbeats 4000000 in
theorem pX13_doAll_o_b2_ok {X : Cx} {G : Gx} {dk : Nat} {g : MT} {h0 : CT} {this : Nat} {p1 : Int32} {p2 : Int32} {k2 : Int32 → CT → Option CT} (Z : Zx X G cX13_doAll RX13 4 dk none none g h0) (hK : 6 ≤ dk) {fO : CT → Nat → Int32 → Int32 → Option CT} {KO : Nat} (hO : ∀ (d : Nat), KO ≤ d → ∀ (h : CT) (this : Nat) (p1 : Int32) (p2 : Int32) (h1 : CT), fO h this p1 p2 = some h1 → Ctr G d yX13_doAll cX13_doAll 4 none [va_rf (some this), .int p1, .int p2] g h none g h1) (hKO : KO + 3 ≤ dk) (t0 : gT g this = 12) (hk2 : ∀ (l3 : Int32) (h : CT), k2 l3 h = some h0 → J X g h 2 [(0, va_rf (some this)), (2, .int p2), (3, .int l3)] []) (l3 : Int32) (h : CT) (hf : pX13_doAll_o_b2 g fO this p1 p2 k2 l3 h = some h0) : J X g h 2 [(0, va_rf (some this)), (2, .int p2), (3, .int l3)] [] := by
  unfold pX13_doAll_o_b2 at hf
  refine J_iload_n Z.1 2 dX13_doAll_2 rfl rfl ?_
  refine J_iload_n Z.1 1 dX13_doAll_3 rfl rfl ?_
  refine J_icmp_ge Z.1 47 dX13_doAll_4 (by decide) (fun c1 => ?_) (fun c1 => ?_)
  · rw [if_pos c1] at hf
    cases hf
    exact J_vret Z.1 Z.2.2.2.2.2 dX13_doAll_47
  · rw [if_neg c1] at hf
    refine J_aload_n Z.1 0 dX13_doAll_7 rfl rfl ?_
    refine J_get (v := .int (hI h this 40)) Z.1 dX13_doAll_8 fl_X13_378 t0 rfl ?_
    refine J_if_ne Z.1 47 dX13_doAll_11 (by decide) (fun c2 => ?_) (fun c2 => ?_)
    · rw [if_neg c2] at hf
      cases hf
      exact J_vret Z.1 Z.2.2.2.2.2 dX13_doAll_47
    · rw [if_pos c2] at hf
      refine J_aload_n Z.1 0 dX13_doAll_14 rfl rfl ?_
      refine J_iload_n Z.1 2 dX13_doAll_15 rfl rfl ?_
      replace hf := bd_i hf
      obtain ⟨h3, q4, hf⟩ := hf
      refine J_callV (ci := 11) (as := [.int l3]) (rest := []) (sy := []) Z.1 dX13_doAll_16 cw_X13_532 (pX13_doOne_ok G (dk - 1) (by omega) hO (by omega) q4) rfl rfl t0 (zG Z) rfl (by decide) (zF Z (by omega)) (zO Z (by omega) (by decide)) (zM _) Z.2.1 Z.2.1 rfl rfl ?_
      refine J_aload_n Z.1 0 dX13_doAll_19 rfl rfl ?_
      refine J_iload_n Z.1 2 dX13_doAll_20 rfl rfl ?_
      refine J_iconst Z.1 (v := 0) (by decide) dX13_doAll_21 ?_
      replace hf := bd_i hf
      obtain ⟨x5, q6, hf⟩ := hf
      refine J_callV (ci := 11) (as := [.int l3, .int 0]) (rest := []) (sy := [.int x5]) Z.1 dX13_doAll_22 cw_X13_381 (pX13_at_ok G (dk - 1) (by omega) q6) rfl rfl t0 (zG Z) rfl (by decide) (zF Z (by omega)) (zO Z (by omega) (by decide)) (zM _) Z.2.1 Z.2.1 rfl rfl ?_
      refine J_bipush Z.1 (v := 25) (by decide) dX13_doAll_25 ?_
      refine J_icmp_ne Z.1 40 dX13_doAll_27 (by decide) (fun c7 => ?_) (fun c7 => ?_)
      · rw [if_neg c7] at hf
        refine J_iload_n Z.1 2 dX13_doAll_40 rfl rfl ?_
        refine J_iconst Z.1 (v := 1) (by decide) dX13_doAll_41 ?_
        refine J_iadd Z.1 dX13_doAll_42 ?_
        refine J_lv [0, 1] rfl ?_
        exact pX13_doAll_o_b43_ok Z hK hO hKO t0 hk2 _ _ hf
      · rw [if_pos c7] at hf
        refine J_aload_n Z.1 0 dX13_doAll_30 rfl rfl ?_
        refine J_iload_n Z.1 2 dX13_doAll_31 rfl rfl ?_
        refine J_bipush Z.1 (v := 7) (by decide) dX13_doAll_32 ?_
        replace hf := bd_i hf
        obtain ⟨x8, q9, hf⟩ := hf
        refine J_callV (ci := 11) (as := [.int l3, .int 7]) (rest := []) (sy := [.int x8]) Z.1 dX13_doAll_34 cw_X13_381 (pX13_at_ok G (dk - 1) (by omega) q9) rfl rfl t0 (zG Z) rfl (by decide) (zF Z (by omega)) (zO Z (by omega) (by decide)) (zM _) Z.2.1 Z.2.1 rfl rfl ?_
        refine J_goto Z.1 43 dX13_doAll_37 (by decide) ?_
        refine J_lv [0, 1] rfl ?_
        exact pX13_doAll_o_b43_ok Z hK hO hKO t0 hk2 _ _ hf
def pX13_doAll_o_l2 (g : MT) (fO : CT → Nat → Int32 → Int32 → Option CT) (this : Nat) (p1 : Int32) (p2 : Int32) : Nat → Int32 → CT → Option CT
  | 0, _, _ => none
  | n + 1, l3, h => pX13_doAll_o_b2 g fO this p1 p2 (pX13_doAll_o_l2 g fO this p1 p2 n) l3 h
theorem pX13_doAll_o_l2_ok {X : Cx} {G : Gx} {dk : Nat} {g : MT} {h0 : CT} {this : Nat} {p1 : Int32} {p2 : Int32} (Z : Zx X G cX13_doAll RX13 4 dk none none g h0) (hK : 6 ≤ dk) {fO : CT → Nat → Int32 → Int32 → Option CT} {KO : Nat} (hO : ∀ (d : Nat), KO ≤ d → ∀ (h : CT) (this : Nat) (p1 : Int32) (p2 : Int32) (h1 : CT), fO h this p1 p2 = some h1 → Ctr G d yX13_doAll cX13_doAll 4 none [va_rf (some this), .int p1, .int p2] g h none g h1) (hKO : KO + 3 ≤ dk) (t0 : gT g this = 12) : ∀ (n : Nat) (l3 : Int32) (h : CT), pX13_doAll_o_l2 g fO this p1 p2 n l3 h = some h0 → J X g h 2 [(0, va_rf (some this)), (2, .int p2), (3, .int l3)] [] := by
  intro n
  induction n with
  | zero => intro l3 h hf; cases hf
  | succ n ih => intro l3 h hf; exact pX13_doAll_o_b2_ok Z hK hO hKO t0 ih l3 h hf
def pX13_doAll_o (g : MT) (fO : CT → Nat → Int32 → Int32 → Option CT) (h : CT) (this : Nat) (p1 : Int32) (p2 : Int32) : Option CT := tg g this 12 (pX13_doAll_o_l2 g fO this p1 p2  FUEL p1 h)
set_option maxRecDepth 10000 in
set_option maxHeartbeats 4000000 in
theorem pX13_doAll_o_ok (G : Gx) (dk : Nat) (hK : 6 ≤ dk) {g : MT} {fO : CT → Nat → Int32 → Int32 → Option CT} {KO : Nat} (hO : ∀ (d : Nat), KO ≤ d → ∀ (h : CT) (this : Nat) (p1 : Int32) (p2 : Int32) (h1 : CT), fO h this p1 p2 = some h1 → Ctr G d yX13_doAll cX13_doAll 4 none [va_rf (some this), .int p1, .int p2] g h none g h1) (hKO : KO + 3 ≤ dk) {h h0 : CT} {this : Nat} {p1 : Int32} {p2 : Int32} (hf : pX13_doAll_o g fO h this p1 p2 = some h0) : Ctr G dk yX13_doAll cX13_doAll 4 none [va_rf (some this), .int p1, .int p2] g h none g h0 := by
  refine Ctr.ofZ (lv := [(0, va_rf (some this)), (1, .int p1), (2, .int p2)]) (by decide +kernel) (by simp [cat_i, cat_l, cat_d, cat_rf]) rfl fun X Z => ?_
  unfold pX13_doAll_o at hf
  replace hf := tg_i hf
  obtain ⟨t0, hf⟩ := hf
  refine J_iload_n Z.1 1 dX13_doAll_0 rfl rfl ?_
  refine J_istore_n Z.1 (lv2 := [(3, .int p1), (0, va_rf (some this)), (1, .int p1), (2, .int p2)]) dX13_doAll_1 rfl (zL Z (by decide)) rfl ?_
  refine J_lv [1, 3, 0] rfl ?_
  exact pX13_doAll_o_l2_ok Z hK hO hKO t0  FUEL _ _ hf
def pX13_doAll_r (g : MT) : Nat → CT → Nat → Int32 → Int32 → Option CT
  | 0, _, _, _, _ => none
  | n + 1, h, this, p1, p2 => pX13_doAll_o g (pX13_doAll_r g n) h this p1 p2
theorem pX13_doAll_r_ok (G : Gx) {g : MT} : ∀ (n : Nat) (d : Nat), 6 + 3 * n ≤ d → ∀ (h : CT) (this : Nat) (p1 : Int32) (p2 : Int32) (h0 : CT), pX13_doAll_r g n h this p1 p2 = some h0 → Ctr G d yX13_doAll cX13_doAll 4 none [va_rf (some this), .int p1, .int p2] g h none g h0 := by
  intro n
  induction n with
  | zero => intro d hd h this p1 p2 h0 hf; cases hf
  | succ n ih => intro d hd h this p1 p2 h0 hf; exact pX13_doAll_o_ok G d (by omega) (KO := 6 + 3 * n) ih (by omega) hf
def pX13_doAll (g : MT) (h : CT) (this : Nat) (p1 : Int32) (p2 : Int32) : Option CT := pX13_doAll_r g RFUEL h this p1 p2
theorem pX13_doAll_ok (G : Gx) (dk : Nat) (hK : 126 ≤ dk) {g : MT} {h h0 : CT} {this : Nat} {p1 : Int32} {p2 : Int32} (hf : pX13_doAll g h this p1 p2 = some h0) : Ctr G dk yX13_doAll cX13_doAll 4 none [va_rf (some this), .int p1, .int p2] g h none g h0 := pX13_doAll_r_ok G RFUEL dk (by unfold RFUEL; omega) _ _ _ _ _ hf
